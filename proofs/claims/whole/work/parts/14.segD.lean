theorem s_X12_feet_0 (g : vt_GT) (σ : vt_Sg) (P : Option Value → vt_Sg → Prop) (p1 : Int32) (p2 : Int32)
  (h : ((¬ p1 < 0 ∧ ¬ 11 < p1) → ((¬ p2 < (10 : Int32) ∧ ¬ (999 : Int32) < p2) → vp_in (10 + p1) 2220 ∧ (P (some (.int (σ 169 (10 + p1).toNatClampNeg))) (su σ 169 (upd (σ 169) ((10 + p1).toNatClampNeg) p2)))) ∧ (¬ (¬ p2 < (10 : Int32) ∧ ¬ (999 : Int32) < p2) → P (some (.int (-1000000001))) σ)) ∧ (¬ (¬ p1 < 0 ∧ ¬ 11 < p1) → P (some (.int (-1000000001))) σ)) :
  TT g (vt_R 2) 0 0 D_X12_feet none 0 [some (.ref (g.2.1 168)), some (.int p1), some (.int p2), none] [] σ P := by
  refine q_iload_n dX12_feet_0 rfl ?_
  refine q_cSb (C := ¬ p1 < 0 ∧ ¬ 11 < p1) (d' := 1) [.int p1] [] dX12_feet_1 ok_X12_isPlace mk_RX12_53 rfl (Nat.le_of_ble_eq_true rfl) (by first | decide | omega) (fun Φ h9 => c_X12_isPlace (σ := σ) Φ h9) (fun c1 => ?_) (fun c1 => ?_)
  · have h := h.1 c1
    refine q_if_eq (tgt := 19) dX12_feet_4 (by decide) (fun c => absurd c (by decide)) (fun _ => ?_)
    refine q_iload_n dX12_feet_7 rfl ?_
    refine q_bipush (v := 10) dX12_feet_8 (by decide) ?_
    refine q_sipush (v := 999) dX12_feet_10 (by decide) ?_
    refine q_cSb (C := ¬ p2 < (10 : Int32) ∧ ¬ (999 : Int32) < p2) (d' := 0) [.int p2, .int 10, .int 999] [] dX12_feet_13 ok_X12_within mk_RX12_49 rfl (Nat.le_of_ble_eq_true rfl) (by first | decide | omega) (fun Φ h9 => c_X12_within (σ := σ) Φ h9) (fun c2 => ?_) (fun c2 => ?_)
    · have h := h.1 c2
      refine q_if_ne (tgt := 22) dX12_feet_16 (by decide) (fun _ => ?_) (fun c => absurd c (by decide))
      refine q_aload_n dX12_feet_22 rfl ?_
      refine q_getR dX12_feet_23 fF_RX12_9 fl_168_0 ?_
      refine q_bipush (v := 10) dX12_feet_26 (by decide) ?_
      refine q_iload_n dX12_feet_28 rfl ?_
      refine q_iadd dX12_feet_29 ?_
      obtain ⟨hi3, h⟩ := h
      refine q_ialdX (v := (σ 169 (10 + p1).toNatClampNeg)) dX12_feet_30 ar_169 hi3 rfl ?_
      refine q_istore_n (L' := [some (.ref (g.2.1 168)), some (.int p1), some (.int p2), some (.int (σ 169 (10 + p1).toNatClampNeg))]) dX12_feet_31 (by decide) rfl rfl ?_
      refine q_aload_n dX12_feet_32 rfl ?_
      refine q_getR dX12_feet_33 fF_RX12_9 fl_168_0 ?_
      refine q_bipush (v := 10) dX12_feet_36 (by decide) ?_
      refine q_iload_n dX12_feet_38 rfl ?_
      refine q_iadd dX12_feet_39 ?_
      refine q_iload_n dX12_feet_40 rfl ?_
      refine q_iastX (F := upd (σ 169) ((10 + p1).toNatClampNeg) p2) dX12_feet_41 ar_169 hi3 rfl ?_
      refine q_iload_n dX12_feet_42 rfl ?_
      exact q_iret .int rfl rfl dX12_feet_43 h
    · have h := h.2 c2
      refine q_if_ne (tgt := 22) dX12_feet_16 (by decide) (fun c => absurd rfl c) (fun _ => ?_)
      refine q_ldc dX12_feet_19 ct_RX12_57 ?_
      exact q_iret .int rfl rfl dX12_feet_21 h
  · have h := h.2 c1
    refine q_if_eq (tgt := 19) dX12_feet_4 (by decide) (fun _ => ?_) (fun c => absurd (by decide) c)
    refine q_ldc dX12_feet_19 ct_RX12_57 ?_
    exact q_iret .int rfl rfl dX12_feet_21 h

theorem s_X12_lay_0 (g : vt_GT) (σ : vt_Sg) (P : Option Value → vt_Sg → Prop) (p1 : Int32)
  (h : ((¬ p1 < (0 : Int32) ∧ ¬ (1 : Int32) < p1) → vp_in p1 2 ∧ ((0 ≤ (σ 173 p1.toNatClampNeg) → TT g (vt_R 1) 0 0 D_X12_lay none 28 [some (.ref (g.2.1 168)), some (.int p1), some (.int 0), some (.int 0), none] [] σ P) ∧ (¬ 0 ≤ (σ 173 p1.toNatClampNeg) → P (some (.int (-1000000011))) σ))) ∧ (¬ (¬ p1 < (0 : Int32) ∧ ¬ (1 : Int32) < p1) → P (some (.int (-1000000001))) σ)) :
  TT g (vt_R 1) 0 0 D_X12_lay none 0 [some (.ref (g.2.1 168)), some (.int p1), none, none, none] [] σ P := by
  refine q_iload_n dX12_lay_0 rfl ?_
  refine q_iconst (v := 0) dX12_lay_1 (by decide) ?_
  refine q_iconst (v := 1) dX12_lay_2 (by decide) ?_
  refine q_cSb (C := ¬ p1 < (0 : Int32) ∧ ¬ (1 : Int32) < p1) (d' := 0) [.int p1, .int 0, .int 1] [] dX12_lay_3 ok_X12_within mk_RX12_49 rfl (Nat.le_of_ble_eq_true rfl) (by first | decide | omega) (fun Φ h9 => c_X12_within (σ := σ) Φ h9) (fun c1 => ?_) (fun c1 => ?_)
  · have h := h.1 c1
    refine q_if_ne (tgt := 12) dX12_lay_6 (by decide) (fun _ => ?_) (fun c => absurd c (by decide))
    refine q_aload_n dX12_lay_12 rfl ?_
    refine q_getR dX12_lay_13 fF_RX12_22 fl_168_7 ?_
    refine q_iload_n dX12_lay_16 rfl ?_
    obtain ⟨hi2, h⟩ := h
    refine q_ialdX (v := (σ 173 p1.toNatClampNeg)) dX12_lay_17 ar_173 hi2 rfl ?_
    refine q_if_ge (tgt := 24) dX12_lay_18 (by decide) (fun c3 => ?_) (fun c3 => ?_)
    · have h := h.1 c3
      refine q_iconst (v := 0) dX12_lay_24 (by decide) ?_
      refine q_istore_n (L' := [some (.ref (g.2.1 168)), some (.int p1), some (.int 0), none, none]) dX12_lay_25 (by decide) rfl rfl ?_
      refine q_iconst (v := 0) dX12_lay_26 (by decide) ?_
      refine q_istore_n (L' := [some (.ref (g.2.1 168)), some (.int p1), some (.int 0), some (.int 0), none]) dX12_lay_27 (by decide) rfl rfl ?_
      exact h
    · have h := h.2 c3
      refine q_ldc dX12_lay_21 ct_RX12_58 ?_
      exact q_iret .int rfl rfl dX12_lay_23 h
  · have h := h.2 c1
    refine q_if_ne (tgt := 12) dX12_lay_6 (by decide) (fun c => absurd rfl c) (fun _ => ?_)
    refine q_ldc dX12_lay_9 ct_RX12_57 ?_
    exact q_iret .int rfl rfl dX12_lay_11 h

theorem s_X12_lay_28 (g : vt_GT) (σ : vt_Sg) (P : Option Value → vt_Sg → Prop) (x1 : Int32) (x2 : Int32) (x3 : Int32)
  (h : (12 ≤ x3 → P (some (.int x2)) σ) ∧ (¬ 12 ≤ x3 → vp_in x1 2 ∧ (((σ 173 x1.toNatClampNeg) ≤ x3 → P (some (.int x2)) σ) ∧ (¬ (σ 173 x1.toNatClampNeg) ≤ x3 → vp_in ((16 * x1) + x3) 32 ∧ (((¬ (σ 174 ((16 * x1) + x3).toNatClampNeg) < (10 : Int32) ∧ ¬ (999 : Int32) < (σ 174 ((16 * x1) + x3).toNatClampNeg)) → vp_in (10 + x3) 2220 ∧ (TT g (vt_R 1) 0 0 D_X12_lay none 28 [some (.ref (g.2.1 168)), some (.int x1), some (.int (x2 + 1)), some (.int (x3 + 1)), none] [] (su σ 169 (upd (σ 169) ((10 + x3).toNatClampNeg) (σ 174 ((16 * x1) + x3).toNatClampNeg))) P)) ∧ (¬ (¬ (σ 174 ((16 * x1) + x3).toNatClampNeg) < (10 : Int32) ∧ ¬ (999 : Int32) < (σ 174 ((16 * x1) + x3).toNatClampNeg)) → TT g (vt_R 1) 0 0 D_X12_lay none 28 [some (.ref (g.2.1 168)), some (.int x1), some (.int x2), some (.int (x3 + 1)), none] [] σ P)))))) :
  TT g (vt_R 1) 0 0 D_X12_lay none 28 [some (.ref (g.2.1 168)), some (.int x1), some (.int x2), some (.int x3), none] [] σ P := by
  refine q_iload_n dX12_lay_28 rfl ?_
  refine q_bipush (v := 12) dX12_lay_29 (by decide) ?_
  refine q_icmp_ge (tgt := 90) dX12_lay_31 (by decide) (fun c1 => ?_) (fun c1 => ?_)
  · have h := h.1 c1
    refine q_iload_n dX12_lay_90 rfl ?_
    exact q_iret .int rfl rfl dX12_lay_91 h
  · have h := h.2 c1
    refine q_iload_n dX12_lay_34 rfl ?_
    refine q_aload_n dX12_lay_35 rfl ?_
    refine q_getR dX12_lay_36 fF_RX12_22 fl_168_7 ?_
    refine q_iload_n dX12_lay_39 rfl ?_
    obtain ⟨hi2, h⟩ := h
    refine q_ialdX (v := (σ 173 x1.toNatClampNeg)) dX12_lay_40 ar_173 hi2 rfl ?_
    refine q_icmp_ge (tgt := 90) dX12_lay_41 (by decide) (fun c3 => ?_) (fun c3 => ?_)
    · have h := h.1 c3
      refine q_iload_n dX12_lay_90 rfl ?_
      exact q_iret .int rfl rfl dX12_lay_91 h
    · have h := h.2 c3
      refine q_aload_n dX12_lay_44 rfl ?_
      refine q_getR dX12_lay_45 fF_RX12_25 fl_168_8 ?_
      refine q_bipush (v := 16) dX12_lay_48 (by decide) ?_
      refine q_iload_n dX12_lay_50 rfl ?_
      refine q_imul dX12_lay_51 ?_
      refine q_iload_n dX12_lay_52 rfl ?_
      refine q_iadd dX12_lay_53 ?_
      obtain ⟨hi4, h⟩ := h
      refine q_ialdX (v := (σ 174 ((16 * x1) + x3).toNatClampNeg)) dX12_lay_54 ar_174 hi4 rfl ?_
      refine q_istore (L' := [some (.ref (g.2.1 168)), some (.int x1), some (.int x2), some (.int x3), some (.int (σ 174 ((16 * x1) + x3).toNatClampNeg))]) dX12_lay_55 (by decide) rfl rfl ?_
      refine q_iload dX12_lay_57 rfl ?_
      refine q_bipush (v := 10) dX12_lay_59 (by decide) ?_
      refine q_sipush (v := 999) dX12_lay_61 (by decide) ?_
      refine q_cSb (C := ¬ (σ 174 ((16 * x1) + x3).toNatClampNeg) < (10 : Int32) ∧ ¬ (999 : Int32) < (σ 174 ((16 * x1) + x3).toNatClampNeg)) (d' := 0) [.int (σ 174 ((16 * x1) + x3).toNatClampNeg), .int 10, .int 999] [] dX12_lay_64 ok_X12_within mk_RX12_49 rfl (Nat.le_of_ble_eq_true rfl) (by first | decide | omega) (fun Φ h9 => c_X12_within (σ := σ) Φ h9) (fun c5 => ?_) (fun c5 => ?_)
      · have h := h.1 c5
        refine q_if_eq (tgt := 84) dX12_lay_67 (by decide) (fun c => absurd c (by decide)) (fun _ => ?_)
        refine q_aload_n dX12_lay_70 rfl ?_
        refine q_getR dX12_lay_71 fF_RX12_9 fl_168_0 ?_
        refine q_bipush (v := 10) dX12_lay_74 (by decide) ?_
        refine q_iload_n dX12_lay_76 rfl ?_
        refine q_iadd dX12_lay_77 ?_
        refine q_iload dX12_lay_78 rfl ?_
        obtain ⟨hi6, h⟩ := h
        refine q_iastX (F := upd (σ 169) ((10 + x3).toNatClampNeg) (σ 174 ((16 * x1) + x3).toNatClampNeg)) dX12_lay_80 ar_169 hi6 rfl ?_
        refine q_iinc (L' := [some (.ref (g.2.1 168)), some (.int x1), some (.int (x2 + 1)), some (.int x3), some (.int (σ 174 ((16 * x1) + x3).toNatClampNeg))]) dX12_lay_81 rfl (by decide) rfl rfl ?_
        refine q_iinc (L' := [some (.ref (g.2.1 168)), some (.int x1), some (.int (x2 + 1)), some (.int (x3 + 1)), some (.int (σ 174 ((16 * x1) + x3).toNatClampNeg))]) dX12_lay_84 rfl (by decide) rfl rfl ?_
        refine q_goto (tgt := 28) dX12_lay_87 (by decide) ?_
        exact q_wk (by simp [vt_le]) h
      · have h := h.2 c5
        refine q_if_eq (tgt := 84) dX12_lay_67 (by decide) (fun _ => ?_) (fun c => absurd (by decide) c)
        refine q_iinc (L' := [some (.ref (g.2.1 168)), some (.int x1), some (.int x2), some (.int (x3 + 1)), some (.int (σ 174 ((16 * x1) + x3).toNatClampNeg))]) dX12_lay_84 rfl (by decide) rfl rfl ?_
        refine q_goto (tgt := 28) dX12_lay_87 (by decide) ?_
        exact q_wk (by simp [vt_le]) h

theorem s_X12_door_0 (g : vt_GT) (σ : vt_Sg) (P : Option Value → vt_Sg → Prop) (p1 : Int32) (p2 : Int32)
  (h : ((¬ p1 < 0 ∧ ¬ 11 < p1) → ((¬ p2 < (0 : Int32) ∧ ¬ (9999 : Int32) < p2) → (¬ (σ 169 1) = 4 → vp_in (22 + (2 * (σ 169 1))) 2220 ∧ (vp_in ((22 + (2 * (σ 169 1))) + 1) 2220 ∧ (P (some (.int (σ 169 1))) (su (su (su σ 169 (upd (σ 169) ((22 + (2 * (σ 169 1))).toNatClampNeg) p1)) 169 (upd (upd (σ 169) ((22 + (2 * (σ 169 1))).toNatClampNeg) p1) (((22 + (2 * (σ 169 1))) + 1).toNatClampNeg) p2)) 169 (upd (upd (upd (σ 169) ((22 + (2 * (σ 169 1))).toNatClampNeg) p1) (((22 + (2 * (σ 169 1))) + 1).toNatClampNeg) p2) 1 (((upd (upd (σ 169) ((22 + (2 * (σ 169 1))).toNatClampNeg) p1) (((22 + (2 * (σ 169 1))) + 1).toNatClampNeg) p2) 1) + 1)))))) ∧ ((σ 169 1) = 4 → P (some (.int (-1000000003))) σ)) ∧ (¬ (¬ p2 < (0 : Int32) ∧ ¬ (9999 : Int32) < p2) → P (some (.int (-1000000001))) σ)) ∧ (¬ (¬ p1 < 0 ∧ ¬ 11 < p1) → P (some (.int (-1000000001))) σ)) :
  TT g (vt_R 2) 0 0 D_X12_door none 0 [some (.ref (g.2.1 168)), some (.int p1), some (.int p2), none] [] σ P := by
  refine q_iload_n dX12_door_0 rfl ?_
  refine q_cSb (C := ¬ p1 < 0 ∧ ¬ 11 < p1) (d' := 1) [.int p1] [] dX12_door_1 ok_X12_isPlace mk_RX12_53 rfl (Nat.le_of_ble_eq_true rfl) (by first | decide | omega) (fun Φ h9 => c_X12_isPlace (σ := σ) Φ h9) (fun c1 => ?_) (fun c1 => ?_)
  · have h := h.1 c1
    refine q_if_eq (tgt := 18) dX12_door_4 (by decide) (fun c => absurd c (by decide)) (fun _ => ?_)
    refine q_iload_n dX12_door_7 rfl ?_
    refine q_iconst (v := 0) dX12_door_8 (by decide) ?_
    refine q_sipush (v := 9999) dX12_door_9 (by decide) ?_
    refine q_cSb (C := ¬ p2 < (0 : Int32) ∧ ¬ (9999 : Int32) < p2) (d' := 0) [.int p2, .int 0, .int 9999] [] dX12_door_12 ok_X12_within mk_RX12_49 rfl (Nat.le_of_ble_eq_true rfl) (by first | decide | omega) (fun Φ h9 => c_X12_within (σ := σ) Φ h9) (fun c2 => ?_) (fun c2 => ?_)
    · have h := h.1 c2
      refine q_if_ne (tgt := 21) dX12_door_15 (by decide) (fun _ => ?_) (fun c => absurd c (by decide))
      refine q_aload_n dX12_door_21 rfl ?_
      refine q_getR dX12_door_22 fF_RX12_9 fl_168_0 ?_
      refine q_iconst (v := 1) dX12_door_25 (by decide) ?_
      refine q_ialdX (v := (σ 169 1)) dX12_door_26 ar_169 (vt_inl rfl) rfl ?_
      refine q_istore_n (L' := [some (.ref (g.2.1 168)), some (.int p1), some (.int p2), some (.int (σ 169 1))]) dX12_door_27 (by decide) rfl rfl ?_
      refine q_iload_n dX12_door_28 rfl ?_
      refine q_iconst (v := 4) dX12_door_29 (by decide) ?_
      refine q_icmp_ne (tgt := 36) dX12_door_30 (by decide) (fun c3 => ?_) (fun c3 => ?_)
      · have h := h.1 c3
        refine q_aload_n dX12_door_36 rfl ?_
        refine q_getR dX12_door_37 fF_RX12_9 fl_168_0 ?_
        refine q_bipush (v := 22) dX12_door_40 (by decide) ?_
        refine q_iconst (v := 2) dX12_door_42 (by decide) ?_
        refine q_iload_n dX12_door_43 rfl ?_
        refine q_imul dX12_door_44 ?_
        refine q_iadd dX12_door_45 ?_
        refine q_iload_n dX12_door_46 rfl ?_
        obtain ⟨hi4, h⟩ := h
        refine q_iastX (F := upd (σ 169) ((22 + (2 * (σ 169 1))).toNatClampNeg) p1) dX12_door_47 ar_169 hi4 rfl ?_
        refine q_aload_n dX12_door_48 rfl ?_
        refine q_getR dX12_door_49 fF_RX12_9 fl_168_0 ?_
        refine q_bipush (v := 22) dX12_door_52 (by decide) ?_
        refine q_iconst (v := 2) dX12_door_54 (by decide) ?_
        refine q_iload_n dX12_door_55 rfl ?_
        refine q_imul dX12_door_56 ?_
        refine q_iadd dX12_door_57 ?_
        refine q_iconst (v := 1) dX12_door_58 (by decide) ?_
        refine q_iadd dX12_door_59 ?_
        refine q_iload_n dX12_door_60 rfl ?_
        obtain ⟨hi5, h⟩ := h
        refine q_iastX (F := upd (upd (σ 169) ((22 + (2 * (σ 169 1))).toNatClampNeg) p1) (((22 + (2 * (σ 169 1))) + 1).toNatClampNeg) p2) dX12_door_61 ar_169 hi5 rfl ?_
        refine q_aload_n dX12_door_62 rfl ?_
        refine q_getR dX12_door_63 fF_RX12_9 fl_168_0 ?_
        refine q_iconst (v := 1) dX12_door_66 (by decide) ?_
        refine q_dup2 dX12_door_67 rfl rfl ?_
        refine q_ialdX (v := ((upd (upd (σ 169) ((22 + (2 * (σ 169 1))).toNatClampNeg) p1) (((22 + (2 * (σ 169 1))) + 1).toNatClampNeg) p2) 1)) dX12_door_68 ar_169 (vt_inl rfl) rfl ?_
        refine q_iconst (v := 1) dX12_door_69 (by decide) ?_
        refine q_iadd dX12_door_70 ?_
        refine q_iastX (F := upd (upd (upd (σ 169) ((22 + (2 * (σ 169 1))).toNatClampNeg) p1) (((22 + (2 * (σ 169 1))) + 1).toNatClampNeg) p2) 1 (((upd (upd (σ 169) ((22 + (2 * (σ 169 1))).toNatClampNeg) p1) (((22 + (2 * (σ 169 1))) + 1).toNatClampNeg) p2) 1) + 1)) dX12_door_71 ar_169 (vt_inl rfl) rfl ?_
        refine q_iload_n dX12_door_72 rfl ?_
        exact q_iret .int rfl rfl dX12_door_73 h
      · have h := h.2 c3
        refine q_ldc dX12_door_33 ct_RX12_59 ?_
        exact q_iret .int rfl rfl dX12_door_35 h
    · have h := h.2 c2
      refine q_if_ne (tgt := 21) dX12_door_15 (by decide) (fun c => absurd rfl c) (fun _ => ?_)
      refine q_ldc dX12_door_18 ct_RX12_57 ?_
      exact q_iret .int rfl rfl dX12_door_20 h
  · have h := h.2 c1
    refine q_if_eq (tgt := 18) dX12_door_4 (by decide) (fun _ => ?_) (fun c => absurd (by decide) c)
    refine q_ldc dX12_door_18 ct_RX12_57 ?_
    exact q_iret .int rfl rfl dX12_door_20 h

theorem s_X12_people_0 (g : vt_GT) (σ : vt_Sg) (P : Option Value → vt_Sg → Prop) (p1 : Int32) (p2 : Int32)
  (h : ((¬ p1 < (0 : Int32) ∧ ¬ ((σ 169 1) - 1) < p1) → ((¬ p2 < (0 : Int32) ∧ ¬ (9999 : Int32) < p2) → vp_in ((22 + (2 * p1)) + 1) 2220 ∧ (P (some (.int (σ 169 ((22 + (2 * p1)) + 1).toNatClampNeg))) (su σ 169 (upd (σ 169) (((22 + (2 * p1)) + 1).toNatClampNeg) p2)))) ∧ (¬ (¬ p2 < (0 : Int32) ∧ ¬ (9999 : Int32) < p2) → P (some (.int (-1000000001))) σ)) ∧ (¬ (¬ p1 < (0 : Int32) ∧ ¬ ((σ 169 1) - 1) < p1) → P (some (.int (-1000000001))) σ)) :
  TT g (vt_R 1) 0 0 D_X12_people none 0 [some (.ref (g.2.1 168)), some (.int p1), some (.int p2), none] [] σ P := by
  refine q_iload_n dX12_people_0 rfl ?_
  refine q_iconst (v := 0) dX12_people_1 (by decide) ?_
  refine q_aload_n dX12_people_2 rfl ?_
  refine q_getR dX12_people_3 fF_RX12_9 fl_168_0 ?_
  refine q_iconst (v := 1) dX12_people_6 (by decide) ?_
  refine q_ialdX (v := (σ 169 1)) dX12_people_7 ar_169 (vt_inl rfl) rfl ?_
  refine q_iconst (v := 1) dX12_people_8 (by decide) ?_
  refine q_isub dX12_people_9 ?_
  refine q_cSb (C := ¬ p1 < (0 : Int32) ∧ ¬ ((σ 169 1) - 1) < p1) (d' := 0) [.int p1, .int 0, .int ((σ 169 1) - 1)] [] dX12_people_10 ok_X12_within mk_RX12_49 rfl (Nat.le_of_ble_eq_true rfl) (by first | decide | omega) (fun Φ h9 => c_X12_within (σ := σ) Φ h9) (fun c1 => ?_) (fun c1 => ?_)
  · have h := h.1 c1
    refine q_if_eq (tgt := 27) dX12_people_13 (by decide) (fun c => absurd c (by decide)) (fun _ => ?_)
    refine q_iload_n dX12_people_16 rfl ?_
    refine q_iconst (v := 0) dX12_people_17 (by decide) ?_
    refine q_sipush (v := 9999) dX12_people_18 (by decide) ?_
    refine q_cSb (C := ¬ p2 < (0 : Int32) ∧ ¬ (9999 : Int32) < p2) (d' := 0) [.int p2, .int 0, .int 9999] [] dX12_people_21 ok_X12_within mk_RX12_49 rfl (Nat.le_of_ble_eq_true rfl) (by first | decide | omega) (fun Φ h9 => c_X12_within (σ := σ) Φ h9) (fun c2 => ?_) (fun c2 => ?_)
    · have h := h.1 c2
      refine q_if_ne (tgt := 30) dX12_people_24 (by decide) (fun _ => ?_) (fun c => absurd c (by decide))
      refine q_aload_n dX12_people_30 rfl ?_
      refine q_getR dX12_people_31 fF_RX12_9 fl_168_0 ?_
      refine q_bipush (v := 22) dX12_people_34 (by decide) ?_
      refine q_iconst (v := 2) dX12_people_36 (by decide) ?_
      refine q_iload_n dX12_people_37 rfl ?_
      refine q_imul dX12_people_38 ?_
      refine q_iadd dX12_people_39 ?_
      refine q_iconst (v := 1) dX12_people_40 (by decide) ?_
      refine q_iadd dX12_people_41 ?_
      obtain ⟨hi3, h⟩ := h
      refine q_ialdX (v := (σ 169 ((22 + (2 * p1)) + 1).toNatClampNeg)) dX12_people_42 ar_169 hi3 rfl ?_
      refine q_istore_n (L' := [some (.ref (g.2.1 168)), some (.int p1), some (.int p2), some (.int (σ 169 ((22 + (2 * p1)) + 1).toNatClampNeg))]) dX12_people_43 (by decide) rfl rfl ?_
      refine q_aload_n dX12_people_44 rfl ?_
      refine q_getR dX12_people_45 fF_RX12_9 fl_168_0 ?_
      refine q_bipush (v := 22) dX12_people_48 (by decide) ?_
      refine q_iconst (v := 2) dX12_people_50 (by decide) ?_
      refine q_iload_n dX12_people_51 rfl ?_
      refine q_imul dX12_people_52 ?_
      refine q_iadd dX12_people_53 ?_
      refine q_iconst (v := 1) dX12_people_54 (by decide) ?_
      refine q_iadd dX12_people_55 ?_
      refine q_iload_n dX12_people_56 rfl ?_
      refine q_iastX (F := upd (σ 169) (((22 + (2 * p1)) + 1).toNatClampNeg) p2) dX12_people_57 ar_169 hi3 rfl ?_
      refine q_iload_n dX12_people_58 rfl ?_
      exact q_iret .int rfl rfl dX12_people_59 h
    · have h := h.2 c2
      refine q_if_ne (tgt := 30) dX12_people_24 (by decide) (fun c => absurd rfl c) (fun _ => ?_)
      refine q_ldc dX12_people_27 ct_RX12_57 ?_
      exact q_iret .int rfl rfl dX12_people_29 h
  · have h := h.2 c1
    refine q_if_eq (tgt := 27) dX12_people_13 (by decide) (fun _ => ?_) (fun c => absurd (by decide) c)
    refine q_ldc dX12_people_27 ct_RX12_57 ?_
    exact q_iret .int rfl rfl dX12_people_29 h

theorem s_X12_shop_0 (g : vt_GT) (σ : vt_Sg) (P : Option Value → vt_Sg → Prop) (p1 : Int32) (p2 : Int32) (p3 : Int32) (p4 : Int32) (p5 : Int32)
  (h : ((¬ p1 < (0 : Int32) ∧ ¬ (3 : Int32) < p1) → ((¬ p2 < (0 : Int32) ∧ ¬ (7 : Int32) < p2) → ((¬ p3 < (0 : Int32) ∧ ¬ (99999 : Int32) < p3) → (p4 < 0 → P (some (.int (-1000000001))) σ) ∧ (¬ p4 < 0 → (11 < (p4 / 100) → P (some (.int (-1000000001))) σ) ∧ (¬ 11 < (p4 / 100) → ((p4 - p4 / 100 * 100) = 0 → P (some (.int (-1000000001))) σ) ∧ (¬ (p4 - p4 / 100 * 100) = 0 → ((¬ p5 < (1 : Int32) ∧ ¬ (999 : Int32) < p5) → (¬ (σ 169 2) = 12 → vp_in (30 + 8 * (σ 169 2) + (0 : Int32)) 2220 ∧ (vp_in (30 + 8 * (σ 169 2) + (1 : Int32)) 2220 ∧ (vp_in (30 + 8 * (σ 169 2) + (2 : Int32)) 2220 ∧ (vp_in (30 + 8 * (σ 169 2) + (4 : Int32)) 2220 ∧ (vp_in (30 + 8 * (σ 169 2) + (5 : Int32)) 2220 ∧ (vp_in (30 + 8 * (σ 169 2) + (3 : Int32)) 2220 ∧ (vp_in (30 + 8 * (σ 169 2) + (6 : Int32)) 2220 ∧ (vp_in (30 + 8 * (σ 169 2) + (7 : Int32)) 2220 ∧ (P (some (.int (σ 169 2))) (su (su (su (su (su (su (su (su (su σ 169 (upd (σ 169) ((30 + 8 * (σ 169 2) + (0 : Int32)).toNatClampNeg) p1)) 169 (upd (upd (σ 169) ((30 + 8 * (σ 169 2) + (0 : Int32)).toNatClampNeg) p1) ((30 + 8 * (σ 169 2) + (1 : Int32)).toNatClampNeg) p2)) 169 (upd (upd (upd (σ 169) ((30 + 8 * (σ 169 2) + (0 : Int32)).toNatClampNeg) p1) ((30 + 8 * (σ 169 2) + (1 : Int32)).toNatClampNeg) p2) ((30 + 8 * (σ 169 2) + (2 : Int32)).toNatClampNeg) (p3 / 1000))) 169 (upd (upd (upd (upd (σ 169) ((30 + 8 * (σ 169 2) + (0 : Int32)).toNatClampNeg) p1) ((30 + 8 * (σ 169 2) + (1 : Int32)).toNatClampNeg) p2) ((30 + 8 * (σ 169 2) + (2 : Int32)).toNatClampNeg) (p3 / 1000)) ((30 + 8 * (σ 169 2) + (4 : Int32)).toNatClampNeg) (p3 - p3 / 1000 * 1000))) 169 (upd (upd (upd (upd (upd (σ 169) ((30 + 8 * (σ 169 2) + (0 : Int32)).toNatClampNeg) p1) ((30 + 8 * (σ 169 2) + (1 : Int32)).toNatClampNeg) p2) ((30 + 8 * (σ 169 2) + (2 : Int32)).toNatClampNeg) (p3 / 1000)) ((30 + 8 * (σ 169 2) + (4 : Int32)).toNatClampNeg) (p3 - p3 / 1000 * 1000)) ((30 + 8 * (σ 169 2) + (5 : Int32)).toNatClampNeg) (p4 / 100))) 169 (upd (upd (upd (upd (upd (upd (σ 169) ((30 + 8 * (σ 169 2) + (0 : Int32)).toNatClampNeg) p1) ((30 + 8 * (σ 169 2) + (1 : Int32)).toNatClampNeg) p2) ((30 + 8 * (σ 169 2) + (2 : Int32)).toNatClampNeg) (p3 / 1000)) ((30 + 8 * (σ 169 2) + (4 : Int32)).toNatClampNeg) (p3 - p3 / 1000 * 1000)) ((30 + 8 * (σ 169 2) + (5 : Int32)).toNatClampNeg) (p4 / 100)) ((30 + 8 * (σ 169 2) + (3 : Int32)).toNatClampNeg) (p4 - p4 / 100 * 100))) 169 (upd (upd (upd (upd (upd (upd (upd (σ 169) ((30 + 8 * (σ 169 2) + (0 : Int32)).toNatClampNeg) p1) ((30 + 8 * (σ 169 2) + (1 : Int32)).toNatClampNeg) p2) ((30 + 8 * (σ 169 2) + (2 : Int32)).toNatClampNeg) (p3 / 1000)) ((30 + 8 * (σ 169 2) + (4 : Int32)).toNatClampNeg) (p3 - p3 / 1000 * 1000)) ((30 + 8 * (σ 169 2) + (5 : Int32)).toNatClampNeg) (p4 / 100)) ((30 + 8 * (σ 169 2) + (3 : Int32)).toNatClampNeg) (p4 - p4 / 100 * 100)) ((30 + 8 * (σ 169 2) + (6 : Int32)).toNatClampNeg) p5)) 169 (upd (upd (upd (upd (upd (upd (upd (upd (σ 169) ((30 + 8 * (σ 169 2) + (0 : Int32)).toNatClampNeg) p1) ((30 + 8 * (σ 169 2) + (1 : Int32)).toNatClampNeg) p2) ((30 + 8 * (σ 169 2) + (2 : Int32)).toNatClampNeg) (p3 / 1000)) ((30 + 8 * (σ 169 2) + (4 : Int32)).toNatClampNeg) (p3 - p3 / 1000 * 1000)) ((30 + 8 * (σ 169 2) + (5 : Int32)).toNatClampNeg) (p4 / 100)) ((30 + 8 * (σ 169 2) + (3 : Int32)).toNatClampNeg) (p4 - p4 / 100 * 100)) ((30 + 8 * (σ 169 2) + (6 : Int32)).toNatClampNeg) p5) ((30 + 8 * (σ 169 2) + (7 : Int32)).toNatClampNeg) 0)) 169 (upd (upd (upd (upd (upd (upd (upd (upd (upd (σ 169) ((30 + 8 * (σ 169 2) + (0 : Int32)).toNatClampNeg) p1) ((30 + 8 * (σ 169 2) + (1 : Int32)).toNatClampNeg) p2) ((30 + 8 * (σ 169 2) + (2 : Int32)).toNatClampNeg) (p3 / 1000)) ((30 + 8 * (σ 169 2) + (4 : Int32)).toNatClampNeg) (p3 - p3 / 1000 * 1000)) ((30 + 8 * (σ 169 2) + (5 : Int32)).toNatClampNeg) (p4 / 100)) ((30 + 8 * (σ 169 2) + (3 : Int32)).toNatClampNeg) (p4 - p4 / 100 * 100)) ((30 + 8 * (σ 169 2) + (6 : Int32)).toNatClampNeg) p5) ((30 + 8 * (σ 169 2) + (7 : Int32)).toNatClampNeg) 0) 2 (((upd (upd (upd (upd (upd (upd (upd (upd (σ 169) ((30 + 8 * (σ 169 2) + (0 : Int32)).toNatClampNeg) p1) ((30 + 8 * (σ 169 2) + (1 : Int32)).toNatClampNeg) p2) ((30 + 8 * (σ 169 2) + (2 : Int32)).toNatClampNeg) (p3 / 1000)) ((30 + 8 * (σ 169 2) + (4 : Int32)).toNatClampNeg) (p3 - p3 / 1000 * 1000)) ((30 + 8 * (σ 169 2) + (5 : Int32)).toNatClampNeg) (p4 / 100)) ((30 + 8 * (σ 169 2) + (3 : Int32)).toNatClampNeg) (p4 - p4 / 100 * 100)) ((30 + 8 * (σ 169 2) + (6 : Int32)).toNatClampNeg) p5) ((30 + 8 * (σ 169 2) + (7 : Int32)).toNatClampNeg) 0) 2) + 1)))))))))))) ∧ ((σ 169 2) = 12 → P (some (.int (-1000000003))) σ)) ∧ (¬ (¬ p5 < (1 : Int32) ∧ ¬ (999 : Int32) < p5) → P (some (.int (-1000000001))) σ))))) ∧ (¬ (¬ p3 < (0 : Int32) ∧ ¬ (99999 : Int32) < p3) → P (some (.int (-1000000001))) σ)) ∧ (¬ (¬ p2 < (0 : Int32) ∧ ¬ (7 : Int32) < p2) → P (some (.int (-1000000001))) σ)) ∧ (¬ (¬ p1 < (0 : Int32) ∧ ¬ (3 : Int32) < p1) → P (some (.int (-1000000001))) σ)) :
  TT g (vt_R 1) 0 0 D_X12_shop none 0 [some (.ref (g.2.1 168)), some (.int p1), some (.int p2), some (.int p3), some (.int p4), some (.int p5), none] [] σ P := by
  refine q_iload_n dX12_shop_0 rfl ?_
  refine q_iconst (v := 0) dX12_shop_1 (by decide) ?_
  refine q_iconst (v := 3) dX12_shop_2 (by decide) ?_
  refine q_cSb (C := ¬ p1 < (0 : Int32) ∧ ¬ (3 : Int32) < p1) (d' := 0) [.int p1, .int 0, .int 3] [] dX12_shop_3 ok_X12_within mk_RX12_49 rfl (Nat.le_of_ble_eq_true rfl) (by first | decide | omega) (fun Φ h9 => c_X12_within (σ := σ) Φ h9) (fun c1 => ?_) (fun c1 => ?_)
  · have h := h.1 c1
    refine q_if_eq (tgt := 64) dX12_shop_6 (by decide) (fun c => absurd c (by decide)) (fun _ => ?_)
    refine q_iload_n dX12_shop_9 rfl ?_
    refine q_iconst (v := 0) dX12_shop_10 (by decide) ?_
    refine q_bipush (v := 7) dX12_shop_11 (by decide) ?_
    refine q_cSb (C := ¬ p2 < (0 : Int32) ∧ ¬ (7 : Int32) < p2) (d' := 0) [.int p2, .int 0, .int 7] [] dX12_shop_13 ok_X12_within mk_RX12_49 rfl (Nat.le_of_ble_eq_true rfl) (by first | decide | omega) (fun Φ h9 => c_X12_within (σ := σ) Φ h9) (fun c2 => ?_) (fun c2 => ?_)
    · have h := h.1 c2
      refine q_if_eq (tgt := 64) dX12_shop_16 (by decide) (fun c => absurd c (by decide)) (fun _ => ?_)
      refine q_iload_n dX12_shop_19 rfl ?_
      refine q_iconst (v := 0) dX12_shop_20 (by decide) ?_
      refine q_ldc dX12_shop_21 ct_RX12_60 ?_
      refine q_cSb (C := ¬ p3 < (0 : Int32) ∧ ¬ (99999 : Int32) < p3) (d' := 0) [.int p3, .int 0, .int 99999] [] dX12_shop_23 ok_X12_within mk_RX12_49 rfl (Nat.le_of_ble_eq_true rfl) (by first | decide | omega) (fun Φ h9 => c_X12_within (σ := σ) Φ h9) (fun c3 => ?_) (fun c3 => ?_)
      · have h := h.1 c3
        refine q_if_eq (tgt := 64) dX12_shop_26 (by decide) (fun c => absurd c (by decide)) (fun _ => ?_)
        refine q_iload dX12_shop_29 rfl ?_
        refine q_if_lt (tgt := 64) dX12_shop_31 (by decide) (fun c4 => ?_) (fun c4 => ?_)
        · have h := h.1 c4
          refine q_ldc dX12_shop_64 ct_RX12_57 ?_
          exact q_iret .int rfl rfl dX12_shop_66 h
        · have h := h.2 c4
          refine q_iload dX12_shop_34 rfl ?_
          refine q_bipush (v := 100) dX12_shop_36 (by decide) ?_
          refine q_idiv dX12_shop_38 (by decide) ?_
          refine q_bipush (v := 11) dX12_shop_39 (by decide) ?_
          refine q_icmp_gt (tgt := 64) dX12_shop_41 (by decide) (fun c5 => ?_) (fun c5 => ?_)
          · have h := h.1 c5
            refine q_ldc dX12_shop_64 ct_RX12_57 ?_
            exact q_iret .int rfl rfl dX12_shop_66 h
          · have h := h.2 c5
            refine q_iload dX12_shop_44 rfl ?_
            refine q_bipush (v := 100) dX12_shop_46 (by decide) ?_
            refine q_irem dX12_shop_48 (by decide) ?_
            refine q_if_eq (tgt := 64) dX12_shop_49 (by decide) (fun c6 => ?_) (fun c6 => ?_)
            · have h := h.1 c6
              refine q_ldc dX12_shop_64 ct_RX12_57 ?_
              exact q_iret .int rfl rfl dX12_shop_66 h
            · have h := h.2 c6
              refine q_iload dX12_shop_52 rfl ?_
              refine q_iconst (v := 1) dX12_shop_54 (by decide) ?_
              refine q_sipush (v := 999) dX12_shop_55 (by decide) ?_
              refine q_cSb (C := ¬ p5 < (1 : Int32) ∧ ¬ (999 : Int32) < p5) (d' := 0) [.int p5, .int 1, .int 999] [] dX12_shop_58 ok_X12_within mk_RX12_49 rfl (Nat.le_of_ble_eq_true rfl) (by first | decide | omega) (fun Φ h9 => c_X12_within (σ := σ) Φ h9) (fun c7 => ?_) (fun c7 => ?_)
              · have h := h.1 c7
                refine q_if_ne (tgt := 67) dX12_shop_61 (by decide) (fun _ => ?_) (fun c => absurd c (by decide))
                refine q_aload_n dX12_shop_67 rfl ?_
                refine q_getR dX12_shop_68 fF_RX12_9 fl_168_0 ?_
                refine q_iconst (v := 2) dX12_shop_71 (by decide) ?_
                refine q_ialdX (v := (σ 169 2)) dX12_shop_72 ar_169 (vt_inl rfl) rfl ?_
                refine q_istore (L' := [some (.ref (g.2.1 168)), some (.int p1), some (.int p2), some (.int p3), some (.int p4), some (.int p5), some (.int (σ 169 2))]) dX12_shop_73 (by decide) rfl rfl ?_
                refine q_iload dX12_shop_75 rfl ?_
                refine q_bipush (v := 12) dX12_shop_77 (by decide) ?_
                refine q_icmp_ne (tgt := 85) dX12_shop_79 (by decide) (fun c8 => ?_) (fun c8 => ?_)
                · have h := h.1 c8
                  refine q_aload_n dX12_shop_85 rfl ?_
                  refine q_getR dX12_shop_86 fF_RX12_9 fl_168_0 ?_
                  refine q_iload dX12_shop_89 rfl ?_
                  refine q_iconst (v := 0) dX12_shop_91 (by decide) ?_
                  refine q_cSi (e := (30 + 8 * (σ 169 2) + (0 : Int32))) (d' := 0) [.int (σ 169 2), .int 0] [.ref (g.2.1 169)] dX12_shop_92 ok_X12_of mk_RX12_61 rfl (Nat.le_of_ble_eq_true rfl) (by first | decide | omega) (fun Φ h9 => c_X12_of (σ := σ) Φ h9) ?_
                  refine q_iload_n dX12_shop_95 rfl ?_
                  obtain ⟨hi9, h⟩ := h
                  refine q_iastX (F := upd (σ 169) ((30 + 8 * (σ 169 2) + (0 : Int32)).toNatClampNeg) p1) dX12_shop_96 ar_169 hi9 rfl ?_
                  refine q_aload_n dX12_shop_97 rfl ?_
                  refine q_getR dX12_shop_98 fF_RX12_9 fl_168_0 ?_
                  refine q_iload dX12_shop_101 rfl ?_
                  refine q_iconst (v := 1) dX12_shop_103 (by decide) ?_
                  refine q_cSi (e := (30 + 8 * (σ 169 2) + (1 : Int32))) (d' := 0) [.int (σ 169 2), .int 1] [.ref (g.2.1 169)] dX12_shop_104 ok_X12_of mk_RX12_61 rfl (Nat.le_of_ble_eq_true rfl) (by first | decide | omega) (fun Φ h9 => c_X12_of (σ := su σ 169 (upd (σ 169) ((30 + 8 * (σ 169 2) + (0 : Int32)).toNatClampNeg) p1)) Φ h9) ?_
                  refine q_iload_n dX12_shop_107 rfl ?_
                  obtain ⟨hi10, h⟩ := h
                  refine q_iastX (F := upd (upd (σ 169) ((30 + 8 * (σ 169 2) + (0 : Int32)).toNatClampNeg) p1) ((30 + 8 * (σ 169 2) + (1 : Int32)).toNatClampNeg) p2) dX12_shop_108 ar_169 hi10 rfl ?_
                  refine q_aload_n dX12_shop_109 rfl ?_
                  refine q_getR dX12_shop_110 fF_RX12_9 fl_168_0 ?_
                  refine q_iload dX12_shop_113 rfl ?_
                  refine q_iconst (v := 2) dX12_shop_115 (by decide) ?_
                  refine q_cSi (e := (30 + 8 * (σ 169 2) + (2 : Int32))) (d' := 0) [.int (σ 169 2), .int 2] [.ref (g.2.1 169)] dX12_shop_116 ok_X12_of mk_RX12_61 rfl (Nat.le_of_ble_eq_true rfl) (by first | decide | omega) (fun Φ h9 => c_X12_of (σ := su (su σ 169 (upd (σ 169) ((30 + 8 * (σ 169 2) + (0 : Int32)).toNatClampNeg) p1)) 169 (upd (upd (σ 169) ((30 + 8 * (σ 169 2) + (0 : Int32)).toNatClampNeg) p1) ((30 + 8 * (σ 169 2) + (1 : Int32)).toNatClampNeg) p2)) Φ h9) ?_
                  refine q_iload_n dX12_shop_119 rfl ?_
                  refine q_sipush (v := 1000) dX12_shop_120 (by decide) ?_
                  refine q_idiv dX12_shop_123 (by decide) ?_
                  obtain ⟨hi11, h⟩ := h
                  refine q_iastX (F := upd (upd (upd (σ 169) ((30 + 8 * (σ 169 2) + (0 : Int32)).toNatClampNeg) p1) ((30 + 8 * (σ 169 2) + (1 : Int32)).toNatClampNeg) p2) ((30 + 8 * (σ 169 2) + (2 : Int32)).toNatClampNeg) (p3 / 1000)) dX12_shop_124 ar_169 hi11 rfl ?_
                  refine q_aload_n dX12_shop_125 rfl ?_
                  refine q_getR dX12_shop_126 fF_RX12_9 fl_168_0 ?_
                  refine q_iload dX12_shop_129 rfl ?_
                  refine q_iconst (v := 4) dX12_shop_131 (by decide) ?_
                  refine q_cSi (e := (30 + 8 * (σ 169 2) + (4 : Int32))) (d' := 0) [.int (σ 169 2), .int 4] [.ref (g.2.1 169)] dX12_shop_132 ok_X12_of mk_RX12_61 rfl (Nat.le_of_ble_eq_true rfl) (by first | decide | omega) (fun Φ h9 => c_X12_of (σ := su (su (su σ 169 (upd (σ 169) ((30 + 8 * (σ 169 2) + (0 : Int32)).toNatClampNeg) p1)) 169 (upd (upd (σ 169) ((30 + 8 * (σ 169 2) + (0 : Int32)).toNatClampNeg) p1) ((30 + 8 * (σ 169 2) + (1 : Int32)).toNatClampNeg) p2)) 169 (upd (upd (upd (σ 169) ((30 + 8 * (σ 169 2) + (0 : Int32)).toNatClampNeg) p1) ((30 + 8 * (σ 169 2) + (1 : Int32)).toNatClampNeg) p2) ((30 + 8 * (σ 169 2) + (2 : Int32)).toNatClampNeg) (p3 / 1000))) Φ h9) ?_
                  refine q_iload_n dX12_shop_135 rfl ?_
                  refine q_sipush (v := 1000) dX12_shop_136 (by decide) ?_
                  refine q_irem dX12_shop_139 (by decide) ?_
                  obtain ⟨hi12, h⟩ := h
                  refine q_iastX (F := upd (upd (upd (upd (σ 169) ((30 + 8 * (σ 169 2) + (0 : Int32)).toNatClampNeg) p1) ((30 + 8 * (σ 169 2) + (1 : Int32)).toNatClampNeg) p2) ((30 + 8 * (σ 169 2) + (2 : Int32)).toNatClampNeg) (p3 / 1000)) ((30 + 8 * (σ 169 2) + (4 : Int32)).toNatClampNeg) (p3 - p3 / 1000 * 1000)) dX12_shop_140 ar_169 hi12 rfl ?_
                  refine q_aload_n dX12_shop_141 rfl ?_
                  refine q_getR dX12_shop_142 fF_RX12_9 fl_168_0 ?_
                  refine q_iload dX12_shop_145 rfl ?_
                  refine q_iconst (v := 5) dX12_shop_147 (by decide) ?_
                  refine q_cSi (e := (30 + 8 * (σ 169 2) + (5 : Int32))) (d' := 0) [.int (σ 169 2), .int 5] [.ref (g.2.1 169)] dX12_shop_148 ok_X12_of mk_RX12_61 rfl (Nat.le_of_ble_eq_true rfl) (by first | decide | omega) (fun Φ h9 => c_X12_of (σ := su (su (su (su σ 169 (upd (σ 169) ((30 + 8 * (σ 169 2) + (0 : Int32)).toNatClampNeg) p1)) 169 (upd (upd (σ 169) ((30 + 8 * (σ 169 2) + (0 : Int32)).toNatClampNeg) p1) ((30 + 8 * (σ 169 2) + (1 : Int32)).toNatClampNeg) p2)) 169 (upd (upd (upd (σ 169) ((30 + 8 * (σ 169 2) + (0 : Int32)).toNatClampNeg) p1) ((30 + 8 * (σ 169 2) + (1 : Int32)).toNatClampNeg) p2) ((30 + 8 * (σ 169 2) + (2 : Int32)).toNatClampNeg) (p3 / 1000))) 169 (upd (upd (upd (upd (σ 169) ((30 + 8 * (σ 169 2) + (0 : Int32)).toNatClampNeg) p1) ((30 + 8 * (σ 169 2) + (1 : Int32)).toNatClampNeg) p2) ((30 + 8 * (σ 169 2) + (2 : Int32)).toNatClampNeg) (p3 / 1000)) ((30 + 8 * (σ 169 2) + (4 : Int32)).toNatClampNeg) (p3 - p3 / 1000 * 1000))) Φ h9) ?_
                  refine q_iload dX12_shop_151 rfl ?_
                  refine q_bipush (v := 100) dX12_shop_153 (by decide) ?_
                  refine q_idiv dX12_shop_155 (by decide) ?_
                  obtain ⟨hi13, h⟩ := h
                  refine q_iastX (F := upd (upd (upd (upd (upd (σ 169) ((30 + 8 * (σ 169 2) + (0 : Int32)).toNatClampNeg) p1) ((30 + 8 * (σ 169 2) + (1 : Int32)).toNatClampNeg) p2) ((30 + 8 * (σ 169 2) + (2 : Int32)).toNatClampNeg) (p3 / 1000)) ((30 + 8 * (σ 169 2) + (4 : Int32)).toNatClampNeg) (p3 - p3 / 1000 * 1000)) ((30 + 8 * (σ 169 2) + (5 : Int32)).toNatClampNeg) (p4 / 100)) dX12_shop_156 ar_169 hi13 rfl ?_
                  refine q_aload_n dX12_shop_157 rfl ?_
                  refine q_getR dX12_shop_158 fF_RX12_9 fl_168_0 ?_
                  refine q_iload dX12_shop_161 rfl ?_
                  refine q_iconst (v := 3) dX12_shop_163 (by decide) ?_
                  refine q_cSi (e := (30 + 8 * (σ 169 2) + (3 : Int32))) (d' := 0) [.int (σ 169 2), .int 3] [.ref (g.2.1 169)] dX12_shop_164 ok_X12_of mk_RX12_61 rfl (Nat.le_of_ble_eq_true rfl) (by first | decide | omega) (fun Φ h9 => c_X12_of (σ := su (su (su (su (su σ 169 (upd (σ 169) ((30 + 8 * (σ 169 2) + (0 : Int32)).toNatClampNeg) p1)) 169 (upd (upd (σ 169) ((30 + 8 * (σ 169 2) + (0 : Int32)).toNatClampNeg) p1) ((30 + 8 * (σ 169 2) + (1 : Int32)).toNatClampNeg) p2)) 169 (upd (upd (upd (σ 169) ((30 + 8 * (σ 169 2) + (0 : Int32)).toNatClampNeg) p1) ((30 + 8 * (σ 169 2) + (1 : Int32)).toNatClampNeg) p2) ((30 + 8 * (σ 169 2) + (2 : Int32)).toNatClampNeg) (p3 / 1000))) 169 (upd (upd (upd (upd (σ 169) ((30 + 8 * (σ 169 2) + (0 : Int32)).toNatClampNeg) p1) ((30 + 8 * (σ 169 2) + (1 : Int32)).toNatClampNeg) p2) ((30 + 8 * (σ 169 2) + (2 : Int32)).toNatClampNeg) (p3 / 1000)) ((30 + 8 * (σ 169 2) + (4 : Int32)).toNatClampNeg) (p3 - p3 / 1000 * 1000))) 169 (upd (upd (upd (upd (upd (σ 169) ((30 + 8 * (σ 169 2) + (0 : Int32)).toNatClampNeg) p1) ((30 + 8 * (σ 169 2) + (1 : Int32)).toNatClampNeg) p2) ((30 + 8 * (σ 169 2) + (2 : Int32)).toNatClampNeg) (p3 / 1000)) ((30 + 8 * (σ 169 2) + (4 : Int32)).toNatClampNeg) (p3 - p3 / 1000 * 1000)) ((30 + 8 * (σ 169 2) + (5 : Int32)).toNatClampNeg) (p4 / 100))) Φ h9) ?_
                  refine q_iload dX12_shop_167 rfl ?_
                  refine q_bipush (v := 100) dX12_shop_169 (by decide) ?_
                  refine q_irem dX12_shop_171 (by decide) ?_
                  obtain ⟨hi14, h⟩ := h
                  refine q_iastX (F := upd (upd (upd (upd (upd (upd (σ 169) ((30 + 8 * (σ 169 2) + (0 : Int32)).toNatClampNeg) p1) ((30 + 8 * (σ 169 2) + (1 : Int32)).toNatClampNeg) p2) ((30 + 8 * (σ 169 2) + (2 : Int32)).toNatClampNeg) (p3 / 1000)) ((30 + 8 * (σ 169 2) + (4 : Int32)).toNatClampNeg) (p3 - p3 / 1000 * 1000)) ((30 + 8 * (σ 169 2) + (5 : Int32)).toNatClampNeg) (p4 / 100)) ((30 + 8 * (σ 169 2) + (3 : Int32)).toNatClampNeg) (p4 - p4 / 100 * 100)) dX12_shop_172 ar_169 hi14 rfl ?_
                  refine q_aload_n dX12_shop_173 rfl ?_
                  refine q_getR dX12_shop_174 fF_RX12_9 fl_168_0 ?_
                  refine q_iload dX12_shop_177 rfl ?_
                  refine q_bipush (v := 6) dX12_shop_179 (by decide) ?_
                  refine q_cSi (e := (30 + 8 * (σ 169 2) + (6 : Int32))) (d' := 0) [.int (σ 169 2), .int 6] [.ref (g.2.1 169)] dX12_shop_181 ok_X12_of mk_RX12_61 rfl (Nat.le_of_ble_eq_true rfl) (by first | decide | omega) (fun Φ h9 => c_X12_of (σ := su (su (su (su (su (su σ 169 (upd (σ 169) ((30 + 8 * (σ 169 2) + (0 : Int32)).toNatClampNeg) p1)) 169 (upd (upd (σ 169) ((30 + 8 * (σ 169 2) + (0 : Int32)).toNatClampNeg) p1) ((30 + 8 * (σ 169 2) + (1 : Int32)).toNatClampNeg) p2)) 169 (upd (upd (upd (σ 169) ((30 + 8 * (σ 169 2) + (0 : Int32)).toNatClampNeg) p1) ((30 + 8 * (σ 169 2) + (1 : Int32)).toNatClampNeg) p2) ((30 + 8 * (σ 169 2) + (2 : Int32)).toNatClampNeg) (p3 / 1000))) 169 (upd (upd (upd (upd (σ 169) ((30 + 8 * (σ 169 2) + (0 : Int32)).toNatClampNeg) p1) ((30 + 8 * (σ 169 2) + (1 : Int32)).toNatClampNeg) p2) ((30 + 8 * (σ 169 2) + (2 : Int32)).toNatClampNeg) (p3 / 1000)) ((30 + 8 * (σ 169 2) + (4 : Int32)).toNatClampNeg) (p3 - p3 / 1000 * 1000))) 169 (upd (upd (upd (upd (upd (σ 169) ((30 + 8 * (σ 169 2) + (0 : Int32)).toNatClampNeg) p1) ((30 + 8 * (σ 169 2) + (1 : Int32)).toNatClampNeg) p2) ((30 + 8 * (σ 169 2) + (2 : Int32)).toNatClampNeg) (p3 / 1000)) ((30 + 8 * (σ 169 2) + (4 : Int32)).toNatClampNeg) (p3 - p3 / 1000 * 1000)) ((30 + 8 * (σ 169 2) + (5 : Int32)).toNatClampNeg) (p4 / 100))) 169 (upd (upd (upd (upd (upd (upd (σ 169) ((30 + 8 * (σ 169 2) + (0 : Int32)).toNatClampNeg) p1) ((30 + 8 * (σ 169 2) + (1 : Int32)).toNatClampNeg) p2) ((30 + 8 * (σ 169 2) + (2 : Int32)).toNatClampNeg) (p3 / 1000)) ((30 + 8 * (σ 169 2) + (4 : Int32)).toNatClampNeg) (p3 - p3 / 1000 * 1000)) ((30 + 8 * (σ 169 2) + (5 : Int32)).toNatClampNeg) (p4 / 100)) ((30 + 8 * (σ 169 2) + (3 : Int32)).toNatClampNeg) (p4 - p4 / 100 * 100))) Φ h9) ?_
                  refine q_iload dX12_shop_184 rfl ?_
                  obtain ⟨hi15, h⟩ := h
                  refine q_iastX (F := upd (upd (upd (upd (upd (upd (upd (σ 169) ((30 + 8 * (σ 169 2) + (0 : Int32)).toNatClampNeg) p1) ((30 + 8 * (σ 169 2) + (1 : Int32)).toNatClampNeg) p2) ((30 + 8 * (σ 169 2) + (2 : Int32)).toNatClampNeg) (p3 / 1000)) ((30 + 8 * (σ 169 2) + (4 : Int32)).toNatClampNeg) (p3 - p3 / 1000 * 1000)) ((30 + 8 * (σ 169 2) + (5 : Int32)).toNatClampNeg) (p4 / 100)) ((30 + 8 * (σ 169 2) + (3 : Int32)).toNatClampNeg) (p4 - p4 / 100 * 100)) ((30 + 8 * (σ 169 2) + (6 : Int32)).toNatClampNeg) p5) dX12_shop_186 ar_169 hi15 rfl ?_
                  refine q_aload_n dX12_shop_187 rfl ?_
                  refine q_getR dX12_shop_188 fF_RX12_9 fl_168_0 ?_
                  refine q_iload dX12_shop_191 rfl ?_
                  refine q_bipush (v := 7) dX12_shop_193 (by decide) ?_
                  refine q_cSi (e := (30 + 8 * (σ 169 2) + (7 : Int32))) (d' := 0) [.int (σ 169 2), .int 7] [.ref (g.2.1 169)] dX12_shop_195 ok_X12_of mk_RX12_61 rfl (Nat.le_of_ble_eq_true rfl) (by first | decide | omega) (fun Φ h9 => c_X12_of (σ := su (su (su (su (su (su (su σ 169 (upd (σ 169) ((30 + 8 * (σ 169 2) + (0 : Int32)).toNatClampNeg) p1)) 169 (upd (upd (σ 169) ((30 + 8 * (σ 169 2) + (0 : Int32)).toNatClampNeg) p1) ((30 + 8 * (σ 169 2) + (1 : Int32)).toNatClampNeg) p2)) 169 (upd (upd (upd (σ 169) ((30 + 8 * (σ 169 2) + (0 : Int32)).toNatClampNeg) p1) ((30 + 8 * (σ 169 2) + (1 : Int32)).toNatClampNeg) p2) ((30 + 8 * (σ 169 2) + (2 : Int32)).toNatClampNeg) (p3 / 1000))) 169 (upd (upd (upd (upd (σ 169) ((30 + 8 * (σ 169 2) + (0 : Int32)).toNatClampNeg) p1) ((30 + 8 * (σ 169 2) + (1 : Int32)).toNatClampNeg) p2) ((30 + 8 * (σ 169 2) + (2 : Int32)).toNatClampNeg) (p3 / 1000)) ((30 + 8 * (σ 169 2) + (4 : Int32)).toNatClampNeg) (p3 - p3 / 1000 * 1000))) 169 (upd (upd (upd (upd (upd (σ 169) ((30 + 8 * (σ 169 2) + (0 : Int32)).toNatClampNeg) p1) ((30 + 8 * (σ 169 2) + (1 : Int32)).toNatClampNeg) p2) ((30 + 8 * (σ 169 2) + (2 : Int32)).toNatClampNeg) (p3 / 1000)) ((30 + 8 * (σ 169 2) + (4 : Int32)).toNatClampNeg) (p3 - p3 / 1000 * 1000)) ((30 + 8 * (σ 169 2) + (5 : Int32)).toNatClampNeg) (p4 / 100))) 169 (upd (upd (upd (upd (upd (upd (σ 169) ((30 + 8 * (σ 169 2) + (0 : Int32)).toNatClampNeg) p1) ((30 + 8 * (σ 169 2) + (1 : Int32)).toNatClampNeg) p2) ((30 + 8 * (σ 169 2) + (2 : Int32)).toNatClampNeg) (p3 / 1000)) ((30 + 8 * (σ 169 2) + (4 : Int32)).toNatClampNeg) (p3 - p3 / 1000 * 1000)) ((30 + 8 * (σ 169 2) + (5 : Int32)).toNatClampNeg) (p4 / 100)) ((30 + 8 * (σ 169 2) + (3 : Int32)).toNatClampNeg) (p4 - p4 / 100 * 100))) 169 (upd (upd (upd (upd (upd (upd (upd (σ 169) ((30 + 8 * (σ 169 2) + (0 : Int32)).toNatClampNeg) p1) ((30 + 8 * (σ 169 2) + (1 : Int32)).toNatClampNeg) p2) ((30 + 8 * (σ 169 2) + (2 : Int32)).toNatClampNeg) (p3 / 1000)) ((30 + 8 * (σ 169 2) + (4 : Int32)).toNatClampNeg) (p3 - p3 / 1000 * 1000)) ((30 + 8 * (σ 169 2) + (5 : Int32)).toNatClampNeg) (p4 / 100)) ((30 + 8 * (σ 169 2) + (3 : Int32)).toNatClampNeg) (p4 - p4 / 100 * 100)) ((30 + 8 * (σ 169 2) + (6 : Int32)).toNatClampNeg) p5)) Φ h9) ?_
                  refine q_iconst (v := 0) dX12_shop_198 (by decide) ?_
                  obtain ⟨hi16, h⟩ := h
                  refine q_iastX (F := upd (upd (upd (upd (upd (upd (upd (upd (σ 169) ((30 + 8 * (σ 169 2) + (0 : Int32)).toNatClampNeg) p1) ((30 + 8 * (σ 169 2) + (1 : Int32)).toNatClampNeg) p2) ((30 + 8 * (σ 169 2) + (2 : Int32)).toNatClampNeg) (p3 / 1000)) ((30 + 8 * (σ 169 2) + (4 : Int32)).toNatClampNeg) (p3 - p3 / 1000 * 1000)) ((30 + 8 * (σ 169 2) + (5 : Int32)).toNatClampNeg) (p4 / 100)) ((30 + 8 * (σ 169 2) + (3 : Int32)).toNatClampNeg) (p4 - p4 / 100 * 100)) ((30 + 8 * (σ 169 2) + (6 : Int32)).toNatClampNeg) p5) ((30 + 8 * (σ 169 2) + (7 : Int32)).toNatClampNeg) 0) dX12_shop_199 ar_169 hi16 rfl ?_
                  refine q_aload_n dX12_shop_200 rfl ?_
                  refine q_getR dX12_shop_201 fF_RX12_9 fl_168_0 ?_
                  refine q_iconst (v := 2) dX12_shop_204 (by decide) ?_
                  refine q_dup2 dX12_shop_205 rfl rfl ?_
                  refine q_ialdX (v := ((upd (upd (upd (upd (upd (upd (upd (upd (σ 169) ((30 + 8 * (σ 169 2) + (0 : Int32)).toNatClampNeg) p1) ((30 + 8 * (σ 169 2) + (1 : Int32)).toNatClampNeg) p2) ((30 + 8 * (σ 169 2) + (2 : Int32)).toNatClampNeg) (p3 / 1000)) ((30 + 8 * (σ 169 2) + (4 : Int32)).toNatClampNeg) (p3 - p3 / 1000 * 1000)) ((30 + 8 * (σ 169 2) + (5 : Int32)).toNatClampNeg) (p4 / 100)) ((30 + 8 * (σ 169 2) + (3 : Int32)).toNatClampNeg) (p4 - p4 / 100 * 100)) ((30 + 8 * (σ 169 2) + (6 : Int32)).toNatClampNeg) p5) ((30 + 8 * (σ 169 2) + (7 : Int32)).toNatClampNeg) 0) 2)) dX12_shop_206 ar_169 (vt_inl rfl) rfl ?_
                  refine q_iconst (v := 1) dX12_shop_207 (by decide) ?_
                  refine q_iadd dX12_shop_208 ?_
                  refine q_iastX (F := upd (upd (upd (upd (upd (upd (upd (upd (upd (σ 169) ((30 + 8 * (σ 169 2) + (0 : Int32)).toNatClampNeg) p1) ((30 + 8 * (σ 169 2) + (1 : Int32)).toNatClampNeg) p2) ((30 + 8 * (σ 169 2) + (2 : Int32)).toNatClampNeg) (p3 / 1000)) ((30 + 8 * (σ 169 2) + (4 : Int32)).toNatClampNeg) (p3 - p3 / 1000 * 1000)) ((30 + 8 * (σ 169 2) + (5 : Int32)).toNatClampNeg) (p4 / 100)) ((30 + 8 * (σ 169 2) + (3 : Int32)).toNatClampNeg) (p4 - p4 / 100 * 100)) ((30 + 8 * (σ 169 2) + (6 : Int32)).toNatClampNeg) p5) ((30 + 8 * (σ 169 2) + (7 : Int32)).toNatClampNeg) 0) 2 (((upd (upd (upd (upd (upd (upd (upd (upd (σ 169) ((30 + 8 * (σ 169 2) + (0 : Int32)).toNatClampNeg) p1) ((30 + 8 * (σ 169 2) + (1 : Int32)).toNatClampNeg) p2) ((30 + 8 * (σ 169 2) + (2 : Int32)).toNatClampNeg) (p3 / 1000)) ((30 + 8 * (σ 169 2) + (4 : Int32)).toNatClampNeg) (p3 - p3 / 1000 * 1000)) ((30 + 8 * (σ 169 2) + (5 : Int32)).toNatClampNeg) (p4 / 100)) ((30 + 8 * (σ 169 2) + (3 : Int32)).toNatClampNeg) (p4 - p4 / 100 * 100)) ((30 + 8 * (σ 169 2) + (6 : Int32)).toNatClampNeg) p5) ((30 + 8 * (σ 169 2) + (7 : Int32)).toNatClampNeg) 0) 2) + 1)) dX12_shop_209 ar_169 (vt_inl rfl) rfl ?_
                  refine q_iload dX12_shop_210 rfl ?_
                  exact q_iret .int rfl rfl dX12_shop_212 h
                · have h := h.2 c8
                  refine q_ldc dX12_shop_82 ct_RX12_59 ?_
                  exact q_iret .int rfl rfl dX12_shop_84 h
              · have h := h.2 c7
                refine q_if_ne (tgt := 67) dX12_shop_61 (by decide) (fun c => absurd rfl c) (fun _ => ?_)
                refine q_ldc dX12_shop_64 ct_RX12_57 ?_
                exact q_iret .int rfl rfl dX12_shop_66 h
      · have h := h.2 c3
        refine q_if_eq (tgt := 64) dX12_shop_26 (by decide) (fun _ => ?_) (fun c => absurd (by decide) c)
        refine q_ldc dX12_shop_64 ct_RX12_57 ?_
        exact q_iret .int rfl rfl dX12_shop_66 h
    · have h := h.2 c2
      refine q_if_eq (tgt := 64) dX12_shop_16 (by decide) (fun _ => ?_) (fun c => absurd (by decide) c)
      refine q_ldc dX12_shop_64 ct_RX12_57 ?_
      exact q_iret .int rfl rfl dX12_shop_66 h
  · have h := h.2 c1
    refine q_if_eq (tgt := 64) dX12_shop_6 (by decide) (fun _ => ?_) (fun c => absurd (by decide) c)
    refine q_ldc dX12_shop_64 ct_RX12_57 ?_
    exact q_iret .int rfl rfl dX12_shop_66 h

theorem s_X12_isOf_0 (g : vt_GT) (σ : vt_Sg) (P : Option Value → vt_Sg → Prop) (p1 : Int32) (p2 : Int32)
  (h : ((¬ p1 < 0 ∧ ¬ (σ 169 2) - 1 < p1) → ((¬ p2 < (0 : Int32) ∧ ¬ (3 : Int32) < p2) → vp_in (30 + 8 * p1 + (0 : Int32)) 2220 ∧ ((p2 = 0 → P (some (.int 1)) σ) ∧ (¬ p2 = 0 → ((σ 169 (30 + 8 * p1 + (0 : Int32)).toNatClampNeg) = p2 → P (some (.int 1)) σ) ∧ (¬ (σ 169 (30 + 8 * p1 + (0 : Int32)).toNatClampNeg) = p2 → (¬ p2 = 2 → P (some (.int 0)) σ) ∧ (p2 = 2 → (¬ (σ 169 (30 + 8 * p1 + (0 : Int32)).toNatClampNeg) = 3 → P (some (.int 0)) σ) ∧ ((σ 169 (30 + 8 * p1 + (0 : Int32)).toNatClampNeg) = 3 → P (some (.int 1)) σ)))))) ∧ (¬ (¬ p2 < (0 : Int32) ∧ ¬ (3 : Int32) < p2) → P (some (.int (-1000000001))) σ)) ∧ (¬ (¬ p1 < 0 ∧ ¬ (σ 169 2) - 1 < p1) → P (some (.int (-1000000001))) σ)) :
  TT g (vt_R 2) 0 0 D_X12_isOf none 0 [some (.ref (g.2.1 168)), some (.int p1), some (.int p2), none] [] σ P := by
  refine q_aload_n dX12_isOf_0 rfl ?_
  refine q_iload_n dX12_isOf_1 rfl ?_
  refine q_cVb (C := ¬ p1 < 0 ∧ ¬ (σ 169 2) - 1 < p1) (d' := 1) [.int p1] [] dX12_isOf_2 ok_X12_isShop mk_RX12_65 rc_168 rfl (Nat.le_of_ble_eq_true rfl) (by first | decide | omega) (fun Φ h9 => c_X12_isShop (σ := σ) Φ h9) (fun c1 => ?_) (fun c1 => ?_)
  · have h := h.1 c1
    refine q_if_eq (tgt := 17) dX12_isOf_5 (by decide) (fun c => absurd c (by decide)) (fun _ => ?_)
    refine q_iload_n dX12_isOf_8 rfl ?_
    refine q_iconst (v := 0) dX12_isOf_9 (by decide) ?_
    refine q_iconst (v := 3) dX12_isOf_10 (by decide) ?_
    refine q_cSb (C := ¬ p2 < (0 : Int32) ∧ ¬ (3 : Int32) < p2) (d' := 0) [.int p2, .int 0, .int 3] [] dX12_isOf_11 ok_X12_within mk_RX12_49 rfl (Nat.le_of_ble_eq_true rfl) (by first | decide | omega) (fun Φ h9 => c_X12_within (σ := σ) Φ h9) (fun c2 => ?_) (fun c2 => ?_)
    · have h := h.1 c2
      refine q_if_ne (tgt := 20) dX12_isOf_14 (by decide) (fun _ => ?_) (fun c => absurd c (by decide))
      refine q_aload_n dX12_isOf_20 rfl ?_
      refine q_getR dX12_isOf_21 fF_RX12_9 fl_168_0 ?_
      refine q_iload_n dX12_isOf_24 rfl ?_
      refine q_iconst (v := 0) dX12_isOf_25 (by decide) ?_
      refine q_cSi (e := (30 + 8 * p1 + (0 : Int32))) (d' := 0) [.int p1, .int 0] [.ref (g.2.1 169)] dX12_isOf_26 ok_X12_of mk_RX12_61 rfl (Nat.le_of_ble_eq_true rfl) (by first | decide | omega) (fun Φ h9 => c_X12_of (σ := σ) Φ h9) ?_
      obtain ⟨hi3, h⟩ := h
      refine q_ialdX (v := (σ 169 (30 + 8 * p1 + (0 : Int32)).toNatClampNeg)) dX12_isOf_29 ar_169 hi3 rfl ?_
      refine q_istore_n (L' := [some (.ref (g.2.1 168)), some (.int p1), some (.int p2), some (.int (σ 169 (30 + 8 * p1 + (0 : Int32)).toNatClampNeg))]) dX12_isOf_30 (by decide) rfl rfl ?_
      refine q_iload_n dX12_isOf_31 rfl ?_
      refine q_if_eq (tgt := 50) dX12_isOf_32 (by decide) (fun c4 => ?_) (fun c4 => ?_)
      · have h := h.1 c4
        refine q_iconst (v := 1) dX12_isOf_50 (by decide) ?_
        refine q_goto (tgt := 55) dX12_isOf_51 (by decide) ?_
        exact q_iret .int rfl rfl dX12_isOf_55 h
      · have h := h.2 c4
        refine q_iload_n dX12_isOf_35 rfl ?_
        refine q_iload_n dX12_isOf_36 rfl ?_
        refine q_icmp_eq (tgt := 50) dX12_isOf_37 (by decide) (fun c5 => ?_) (fun c5 => ?_)
        · have h := h.1 c5
          refine q_iconst (v := 1) dX12_isOf_50 (by decide) ?_
          refine q_goto (tgt := 55) dX12_isOf_51 (by decide) ?_
          exact q_iret .int rfl rfl dX12_isOf_55 h
        · have h := h.2 c5
          refine q_iload_n dX12_isOf_40 rfl ?_
          refine q_iconst (v := 2) dX12_isOf_41 (by decide) ?_
          refine q_icmp_ne (tgt := 54) dX12_isOf_42 (by decide) (fun c6 => ?_) (fun c6 => ?_)
          · have h := h.1 c6
            refine q_iconst (v := 0) dX12_isOf_54 (by decide) ?_
            exact q_iret .int rfl rfl dX12_isOf_55 h
          · have h := h.2 c6
            refine q_iload_n dX12_isOf_45 rfl ?_
            refine q_iconst (v := 3) dX12_isOf_46 (by decide) ?_
            refine q_icmp_ne (tgt := 54) dX12_isOf_47 (by decide) (fun c7 => ?_) (fun c7 => ?_)
            · have h := h.1 c7
              refine q_iconst (v := 0) dX12_isOf_54 (by decide) ?_
              exact q_iret .int rfl rfl dX12_isOf_55 h
            · have h := h.2 c7
              refine q_iconst (v := 1) dX12_isOf_50 (by decide) ?_
              refine q_goto (tgt := 55) dX12_isOf_51 (by decide) ?_
              exact q_iret .int rfl rfl dX12_isOf_55 h
    · have h := h.2 c2
      refine q_if_ne (tgt := 20) dX12_isOf_14 (by decide) (fun c => absurd rfl c) (fun _ => ?_)
      refine q_ldc dX12_isOf_17 ct_RX12_57 ?_
      exact q_iret .int rfl rfl dX12_isOf_19 h
  · have h := h.2 c1
    refine q_if_eq (tgt := 17) dX12_isOf_5 (by decide) (fun _ => ?_) (fun c => absurd (by decide) c)
    refine q_ldc dX12_isOf_17 ct_RX12_57 ?_
    exact q_iret .int rfl rfl dX12_isOf_19 h

theorem s_X12_placeOf_0 (g : vt_GT) (σ : vt_Sg) (P : Option Value → vt_Sg → Prop) (p1 : Int32) (p2 : Int32)
  (h : TT g (vt_R 0) 0 0 D_X12_placeOf none 5 [some (.ref (g.2.1 168)), some (.int p1), some (.int p2), some (.int 0), some (.int 0), none] [] σ P) :
  TT g (vt_R 0) 0 0 D_X12_placeOf none 0 [some (.ref (g.2.1 168)), some (.int p1), some (.int p2), none, none, none] [] σ P := by
  refine q_iconst (v := 0) dX12_placeOf_0 (by decide) ?_
  refine q_istore_n (L' := [some (.ref (g.2.1 168)), some (.int p1), some (.int p2), some (.int 0), none, none]) dX12_placeOf_1 (by decide) rfl rfl ?_
  refine q_iconst (v := 0) dX12_placeOf_2 (by decide) ?_
  refine q_istore (L' := [some (.ref (g.2.1 168)), some (.int p1), some (.int p2), some (.int 0), some (.int 0), none]) dX12_placeOf_3 (by decide) rfl rfl ?_
  exact h

theorem s_X12_placeOf_5 (g : vt_GT) (σ : vt_Sg) (P : Option Value → vt_Sg → Prop) (x1 : Int32) (x2 : Int32) (x3 : Int32) (x4 : Int32)
  (h : ((σ 169 3) ≤ x4 → P (some (.int (x3 - 1))) σ) ∧ (¬ (σ 169 3) ≤ x4 → vp_in (140 + x4) 2220 ∧ ((¬ (((σ 169 (140 + x4).toNatClampNeg) / 13) - ((σ 169 (140 + x4).toNatClampNeg) / 13) / 12 * 12) = x1 → TT g (vt_R 0) 0 0 D_X12_placeOf none 5 [some (.ref (g.2.1 168)), some (.int x1), some (.int x2), some (.int x3), some (.int (x4 + 1)), none] [] σ P) ∧ ((((σ 169 (140 + x4).toNatClampNeg) / 13) - ((σ 169 (140 + x4).toNatClampNeg) / 13) / 12 * 12) = x1 → (x2 < ((σ 169 (140 + x4).toNatClampNeg) / 156) → TT g (vt_R 0) 0 0 D_X12_placeOf none 5 [some (.ref (g.2.1 168)), some (.int x1), some (.int x2), some (.int x3), some (.int (x4 + 1)), none] [] σ P) ∧ (¬ x2 < ((σ 169 (140 + x4).toNatClampNeg) / 156) → TT g (vt_R 0) 0 0 D_X12_placeOf none 5 [some (.ref (g.2.1 168)), some (.int x1), some (.int x2), some (.int ((σ 169 (140 + x4).toNatClampNeg) - (σ 169 (140 + x4).toNatClampNeg) / 13 * 13)), some (.int (x4 + 1)), none] [] σ P))))) :
  TT g (vt_R 0) 0 0 D_X12_placeOf none 5 [some (.ref (g.2.1 168)), some (.int x1), some (.int x2), some (.int x3), some (.int x4), none] [] σ P := by
  refine q_iload dX12_placeOf_5 rfl ?_
  refine q_aload_n dX12_placeOf_7 rfl ?_
  refine q_getR dX12_placeOf_8 fF_RX12_9 fl_168_0 ?_
  refine q_iconst (v := 3) dX12_placeOf_11 (by decide) ?_
  refine q_ialdX (v := (σ 169 3)) dX12_placeOf_12 ar_169 (vt_inl rfl) rfl ?_
  refine q_icmp_ge (tgt := 67) dX12_placeOf_13 (by decide) (fun c1 => ?_) (fun c1 => ?_)
  · have h := h.1 c1
    refine q_iload_n dX12_placeOf_67 rfl ?_
    refine q_iconst (v := 1) dX12_placeOf_68 (by decide) ?_
    refine q_isub dX12_placeOf_69 ?_
    exact q_iret .int rfl rfl dX12_placeOf_70 h
  · have h := h.2 c1
    refine q_aload_n dX12_placeOf_16 rfl ?_
    refine q_getR dX12_placeOf_17 fF_RX12_9 fl_168_0 ?_
    refine q_sipush (v := 140) dX12_placeOf_20 (by decide) ?_
    refine q_iload dX12_placeOf_23 rfl ?_
    refine q_iadd dX12_placeOf_25 ?_
    obtain ⟨hi2, h⟩ := h
    refine q_ialdX (v := (σ 169 (140 + x4).toNatClampNeg)) dX12_placeOf_26 ar_169 hi2 rfl ?_
    refine q_istore (L' := [some (.ref (g.2.1 168)), some (.int x1), some (.int x2), some (.int x3), some (.int x4), some (.int (σ 169 (140 + x4).toNatClampNeg))]) dX12_placeOf_27 (by decide) rfl rfl ?_
    refine q_iload dX12_placeOf_29 rfl ?_
    refine q_bipush (v := 13) dX12_placeOf_31 (by decide) ?_
    refine q_idiv dX12_placeOf_33 (by decide) ?_
    refine q_bipush (v := 12) dX12_placeOf_34 (by decide) ?_
    refine q_irem dX12_placeOf_36 (by decide) ?_
    refine q_iload_n dX12_placeOf_37 rfl ?_
    refine q_icmp_ne (tgt := 59) dX12_placeOf_38 (by decide) (fun c3 => ?_) (fun c3 => ?_)
    · have h := h.1 c3
      refine q_iload_n dX12_placeOf_59 rfl ?_
      refine q_istore_n (L' := [some (.ref (g.2.1 168)), some (.int x1), some (.int x2), some (.int x3), some (.int x4), some (.int (σ 169 (140 + x4).toNatClampNeg))]) dX12_placeOf_60 (by decide) rfl rfl ?_
      refine q_iinc (L' := [some (.ref (g.2.1 168)), some (.int x1), some (.int x2), some (.int x3), some (.int (x4 + 1)), some (.int (σ 169 (140 + x4).toNatClampNeg))]) dX12_placeOf_61 rfl (by decide) rfl rfl ?_
      refine q_goto (tgt := 5) dX12_placeOf_64 (by decide) ?_
      exact q_wk (by simp [vt_le]) h
    · have h := h.2 c3
      refine q_iload dX12_placeOf_41 rfl ?_
      refine q_sipush (v := 156) dX12_placeOf_43 (by decide) ?_
      refine q_idiv dX12_placeOf_46 (by decide) ?_
      refine q_iload_n dX12_placeOf_47 rfl ?_
      refine q_icmp_gt (tgt := 59) dX12_placeOf_48 (by decide) (fun c4 => ?_) (fun c4 => ?_)
      · have h := h.1 c4
        refine q_iload_n dX12_placeOf_59 rfl ?_
        refine q_istore_n (L' := [some (.ref (g.2.1 168)), some (.int x1), some (.int x2), some (.int x3), some (.int x4), some (.int (σ 169 (140 + x4).toNatClampNeg))]) dX12_placeOf_60 (by decide) rfl rfl ?_
        refine q_iinc (L' := [some (.ref (g.2.1 168)), some (.int x1), some (.int x2), some (.int x3), some (.int (x4 + 1)), some (.int (σ 169 (140 + x4).toNatClampNeg))]) dX12_placeOf_61 rfl (by decide) rfl rfl ?_
        refine q_goto (tgt := 5) dX12_placeOf_64 (by decide) ?_
        exact q_wk (by simp [vt_le]) h
      · have h := h.2 c4
        refine q_iload dX12_placeOf_51 rfl ?_
        refine q_bipush (v := 13) dX12_placeOf_53 (by decide) ?_
        refine q_irem dX12_placeOf_55 (by decide) ?_
        refine q_goto (tgt := 60) dX12_placeOf_56 (by decide) ?_
        refine q_istore_n (L' := [some (.ref (g.2.1 168)), some (.int x1), some (.int x2), some (.int ((σ 169 (140 + x4).toNatClampNeg) - (σ 169 (140 + x4).toNatClampNeg) / 13 * 13)), some (.int x4), some (.int (σ 169 (140 + x4).toNatClampNeg))]) dX12_placeOf_60 (by decide) rfl rfl ?_
        refine q_iinc (L' := [some (.ref (g.2.1 168)), some (.int x1), some (.int x2), some (.int ((σ 169 (140 + x4).toNatClampNeg) - (σ 169 (140 + x4).toNatClampNeg) / 13 * 13)), some (.int (x4 + 1)), some (.int (σ 169 (140 + x4).toNatClampNeg))]) dX12_placeOf_61 rfl (by decide) rfl rfl ?_
        refine q_goto (tgt := 5) dX12_placeOf_64 (by decide) ?_
        exact q_wk (by simp [vt_le]) h

theorem s_X12_findStands_0 (g : vt_GT) (σ : vt_Sg) (P : Option Value → vt_Sg → Prop) (p1 : Int32)
  (h : TT g (vt_R 1) 0 0 D_X12_findStands none 2 [some (.ref (g.2.1 168)), some (.int p1), some (.int 0)] [] σ P) :
  TT g (vt_R 1) 0 0 D_X12_findStands none 0 [some (.ref (g.2.1 168)), some (.int p1), none] [] σ P := by
  refine q_iconst (v := 0) dX12_findStands_0 (by decide) ?_
  refine q_istore_n (L' := [some (.ref (g.2.1 168)), some (.int p1), some (.int 0)]) dX12_findStands_1 (by decide) rfl rfl ?_
  exact h

theorem s_X12_findStands_2 (g : vt_GT) (σ : vt_Sg) (P : Option Value → vt_Sg → Prop) (x1 : Int32) (x2 : Int32)
  (h : (12 ≤ x2 → P none σ) ∧ (¬ 12 ≤ x2 → ((σ 169 2) ≤ x2 → vp_in x2 12 ∧ (TT g (vt_R 1) 0 0 D_X12_findStands none 2 [some (.ref (g.2.1 168)), some (.int x1), some (.int (x2 + 1))] [] (su σ 175 (upd (σ 175) x2.toNatClampNeg (-1))) P)) ∧ (¬ (σ 169 2) ≤ x2 → vt_Mi g 0 D_X12_placeOf [.ref (g.2.1 168), .int x2, .int x1] σ (fun r5 σ4 => vp_in x2 12 ∧ (TT g (vt_R 1) 0 0 D_X12_findStands none 2 [some (.ref (g.2.1 168)), some (.int x1), some (.int (x2 + 1))] [] (su σ4 175 (upd (σ4 175) x2.toNatClampNeg r5)) P))))) :
  TT g (vt_R 1) 0 0 D_X12_findStands none 2 [some (.ref (g.2.1 168)), some (.int x1), some (.int x2)] [] σ P := by
  refine q_iload_n dX12_findStands_2 rfl ?_
  refine q_bipush (v := 12) dX12_findStands_3 (by decide) ?_
  refine q_icmp_ge (tgt := 40) dX12_findStands_5 (by decide) (fun c1 => ?_) (fun c1 => ?_)
  · have h := h.1 c1
    exact q_vret rfl dX12_findStands_40 h
  · have h := h.2 c1
    refine q_aload_n dX12_findStands_8 rfl ?_
    refine q_getR dX12_findStands_9 fF_RX12_28 fl_168_9 ?_
    refine q_iload_n dX12_findStands_12 rfl ?_
    refine q_iload_n dX12_findStands_13 rfl ?_
    refine q_aload_n dX12_findStands_14 rfl ?_
    refine q_getR dX12_findStands_15 fF_RX12_9 fl_168_0 ?_
    refine q_iconst (v := 2) dX12_findStands_18 (by decide) ?_
    refine q_ialdX (v := (σ 169 2)) dX12_findStands_19 ar_169 (vt_inl rfl) rfl ?_
    refine q_icmp_ge (tgt := 32) dX12_findStands_20 (by decide) (fun c2 => ?_) (fun c2 => ?_)
    · have h := h.1 c2
      refine q_iconst (v := (-1)) dX12_findStands_32 (by decide) ?_
      obtain ⟨hi3, h⟩ := h
      refine q_iastX (F := upd (σ 175) x2.toNatClampNeg (-1)) dX12_findStands_33 ar_175 hi3 rfl ?_
      refine q_iinc (L' := [some (.ref (g.2.1 168)), some (.int x1), some (.int (x2 + 1))]) dX12_findStands_34 rfl (by decide) rfl rfl ?_
      refine q_goto (tgt := 2) dX12_findStands_37 (by decide) ?_
      exact h
    · have h := h.2 c2
      refine q_aload_n dX12_findStands_23 rfl ?_
      refine q_iload_n dX12_findStands_24 rfl ?_
      refine q_iload_n dX12_findStands_25 rfl ?_
      refine q_cV (d' := 0) [.int x2, .int x1] [.int x2, .ref (g.2.1 175)] dX12_findStands_26 ok_X12_placeOf mk_RX12_68 rc_168 rfl (Nat.le_of_ble_eq_true rfl) (by first | decide | omega) h (fun v σ4 h => ?_)
      obtain ⟨r5, rfl, h⟩ := h
      refine q_goto (tgt := 33) dX12_findStands_29 (by decide) ?_
      obtain ⟨hi6, h⟩ := h
      refine q_iastX (F := upd (σ4 175) x2.toNatClampNeg r5) dX12_findStands_33 ar_175 hi6 rfl ?_
      refine q_iinc (L' := [some (.ref (g.2.1 168)), some (.int x1), some (.int (x2 + 1))]) dX12_findStands_34 rfl (by decide) rfl rfl ?_
      refine q_goto (tgt := 2) dX12_findStands_37 (by decide) ?_
      exact h

theorem s_X12_shopAt_0 (g : vt_GT) (σ : vt_Sg) (P : Option Value → vt_Sg → Prop) (p1 : Int32)
  (h : TT g (vt_R 0) 0 0 D_X12_shopAt none 2 [some (.ref (g.2.1 168)), some (.int p1), some (.int 0)] [] σ P) :
  TT g (vt_R 0) 0 0 D_X12_shopAt none 0 [some (.ref (g.2.1 168)), some (.int p1), none] [] σ P := by
  refine q_iconst (v := 0) dX12_shopAt_0 (by decide) ?_
  refine q_istore_n (L' := [some (.ref (g.2.1 168)), some (.int p1), some (.int 0)]) dX12_shopAt_1 (by decide) rfl rfl ?_
  exact h

theorem s_X12_shopAt_2 (g : vt_GT) (σ : vt_Sg) (P : Option Value → vt_Sg → Prop) (x1 : Int32) (x2 : Int32)
  (h : (12 ≤ x2 → P (some (.int (-1))) σ) ∧ (¬ 12 ≤ x2 → vp_in x2 12 ∧ ((¬ (σ 175 x2.toNatClampNeg) = x1 → TT g (vt_R 0) 0 0 D_X12_shopAt none 2 [some (.ref (g.2.1 168)), some (.int x1), some (.int (x2 + 1))] [] σ P) ∧ ((σ 175 x2.toNatClampNeg) = x1 → P (some (.int x2)) σ)))) :
  TT g (vt_R 0) 0 0 D_X12_shopAt none 2 [some (.ref (g.2.1 168)), some (.int x1), some (.int x2)] [] σ P := by
  refine q_iload_n dX12_shopAt_2 rfl ?_
  refine q_bipush (v := 12) dX12_shopAt_3 (by decide) ?_
  refine q_icmp_ge (tgt := 26) dX12_shopAt_5 (by decide) (fun c1 => ?_) (fun c1 => ?_)
  · have h := h.1 c1
    refine q_iconst (v := (-1)) dX12_shopAt_26 (by decide) ?_
    exact q_iret .int rfl rfl dX12_shopAt_27 h
  · have h := h.2 c1
    refine q_aload_n dX12_shopAt_8 rfl ?_
    refine q_getR dX12_shopAt_9 fF_RX12_28 fl_168_9 ?_
    refine q_iload_n dX12_shopAt_12 rfl ?_
    obtain ⟨hi2, h⟩ := h
    refine q_ialdX (v := (σ 175 x2.toNatClampNeg)) dX12_shopAt_13 ar_175 hi2 rfl ?_
    refine q_iload_n dX12_shopAt_14 rfl ?_
    refine q_icmp_ne (tgt := 20) dX12_shopAt_15 (by decide) (fun c3 => ?_) (fun c3 => ?_)
    · have h := h.1 c3
      refine q_iinc (L' := [some (.ref (g.2.1 168)), some (.int x1), some (.int (x2 + 1))]) dX12_shopAt_20 rfl (by decide) rfl rfl ?_
      refine q_goto (tgt := 2) dX12_shopAt_23 (by decide) ?_
      exact h
    · have h := h.2 c3
      refine q_iload_n dX12_shopAt_18 rfl ?_
      exact q_iret .int rfl rfl dX12_shopAt_19 h

theorem s_X12_moves_0 (g : vt_GT) (σ : vt_Sg) (P : Option Value → vt_Sg → Prop) (p1 : Int32) (p2 : Int32)
  (h : vp_in (140 + (σ 169 3)) 2220 ∧ (P none (su (su σ 169 (upd (σ 169) ((140 + (σ 169 3)).toNatClampNeg) (((p2 + 1) + (13 * p1)) + (156 * (σ 169 0))))) 169 (upd (upd (σ 169) ((140 + (σ 169 3)).toNatClampNeg) (((p2 + 1) + (13 * p1)) + (156 * (σ 169 0)))) 3 (((upd (σ 169) ((140 + (σ 169 3)).toNatClampNeg) (((p2 + 1) + (13 * p1)) + (156 * (σ 169 0)))) 3) + 1))))) :
  TT g (vt_R 0) 0 0 D_X12_moves none 0 [some (.ref (g.2.1 168)), some (.int p1), some (.int p2)] [] σ P := by
  refine q_aload_n dX12_moves_0 rfl ?_
  refine q_getR dX12_moves_1 fF_RX12_9 fl_168_0 ?_
  refine q_sipush (v := 140) dX12_moves_4 (by decide) ?_
  refine q_aload_n dX12_moves_7 rfl ?_
  refine q_getR dX12_moves_8 fF_RX12_9 fl_168_0 ?_
  refine q_iconst (v := 3) dX12_moves_11 (by decide) ?_
  refine q_ialdX (v := (σ 169 3)) dX12_moves_12 ar_169 (vt_inl rfl) rfl ?_
  refine q_iadd dX12_moves_13 ?_
  refine q_iload_n dX12_moves_14 rfl ?_
  refine q_iconst (v := 1) dX12_moves_15 (by decide) ?_
  refine q_iadd dX12_moves_16 ?_
  refine q_bipush (v := 13) dX12_moves_17 (by decide) ?_
  refine q_iload_n dX12_moves_19 rfl ?_
  refine q_imul dX12_moves_20 ?_
  refine q_iadd dX12_moves_21 ?_
  refine q_sipush (v := 156) dX12_moves_22 (by decide) ?_
  refine q_aload_n dX12_moves_25 rfl ?_
  refine q_getR dX12_moves_26 fF_RX12_9 fl_168_0 ?_
  refine q_iconst (v := 0) dX12_moves_29 (by decide) ?_
  refine q_ialdX (v := (σ 169 0)) dX12_moves_30 ar_169 (vt_inl rfl) rfl ?_
  refine q_imul dX12_moves_31 ?_
  refine q_iadd dX12_moves_32 ?_
  obtain ⟨hi1, h⟩ := h
  refine q_iastX (F := upd (σ 169) ((140 + (σ 169 3)).toNatClampNeg) (((p2 + 1) + (13 * p1)) + (156 * (σ 169 0)))) dX12_moves_33 ar_169 hi1 rfl ?_
  refine q_aload_n dX12_moves_34 rfl ?_
  refine q_getR dX12_moves_35 fF_RX12_9 fl_168_0 ?_
  refine q_iconst (v := 3) dX12_moves_38 (by decide) ?_
  refine q_dup2 dX12_moves_39 rfl rfl ?_
  refine q_ialdX (v := ((upd (σ 169) ((140 + (σ 169 3)).toNatClampNeg) (((p2 + 1) + (13 * p1)) + (156 * (σ 169 0)))) 3)) dX12_moves_40 ar_169 (vt_inl rfl) rfl ?_
  refine q_iconst (v := 1) dX12_moves_41 (by decide) ?_
  refine q_iadd dX12_moves_42 ?_
  refine q_iastX (F := upd (upd (σ 169) ((140 + (σ 169 3)).toNatClampNeg) (((p2 + 1) + (13 * p1)) + (156 * (σ 169 0)))) 3 (((upd (σ 169) ((140 + (σ 169 3)).toNatClampNeg) (((p2 + 1) + (13 * p1)) + (156 * (σ 169 0)))) 3) + 1)) dX12_moves_43 ar_169 (vt_inl rfl) rfl ?_
  exact q_vret rfl dX12_moves_44 h

theorem s_X12_move_0 (g : vt_GT) (σ : vt_Sg) (P : Option Value → vt_Sg → Prop) (p1 : Int32) (p2 : Int32)
  (h : ((¬ p1 < 0 ∧ ¬ (σ 169 2) - 1 < p1) → (p2 = (-1000000005) → vt_Mv g 1 D_X12_findStands [.ref (g.2.1 168), .int (σ 169 0)] σ (fun σ3 => vp_in p1 12 ∧ (((σ3 175 p1.toNatClampNeg) = (-1) → P (some (.int (-1000000002))) σ3) ∧ (¬ (σ3 175 p1.toNatClampNeg) = (-1) → (¬ (σ3 169 3) = 200 → vt_Mv g 0 D_X12_moves [.ref (g.2.1 168), .int p1, .int (-1)] σ3 (fun σ7 => (0 ≤ (σ3 175 p1.toNatClampNeg) → P (some (.int (σ3 175 p1.toNatClampNeg))) σ7) ∧ (¬ 0 ≤ (σ3 175 p1.toNatClampNeg) → P (some (.int (-1000000005))) σ7))) ∧ ((σ3 169 3) = 200 → P (some (.int (-1000000003))) σ3))))) ∧ (¬ p2 = (-1000000005) → ((¬ p2 < 0 ∧ ¬ 11 < p2) → vt_Mv g 1 D_X12_findStands [.ref (g.2.1 168), .int (σ 169 0)] σ (fun σ10 => vp_in p1 12 ∧ (((σ10 175 p1.toNatClampNeg) = p2 → P (some (.int (-1000000002))) σ10) ∧ (¬ (σ10 175 p1.toNatClampNeg) = p2 → (p2 < 0 → (¬ (σ10 169 3) = 200 → vt_Mv g 0 D_X12_moves [.ref (g.2.1 168), .int p1, .int p2] σ10 (fun σ15 => (0 ≤ (σ10 175 p1.toNatClampNeg) → P (some (.int (σ10 175 p1.toNatClampNeg))) σ15) ∧ (¬ 0 ≤ (σ10 175 p1.toNatClampNeg) → P (some (.int (-1000000005))) σ15))) ∧ ((σ10 169 3) = 200 → P (some (.int (-1000000003))) σ10)) ∧ (¬ p2 < 0 → vt_Mi g 0 D_X12_shopAt [.ref (g.2.1 168), .int p2] σ10 (fun r18 σ17 => (r18 < 0 → (¬ (σ17 169 3) = 200 → vt_Mv g 0 D_X12_moves [.ref (g.2.1 168), .int p1, .int p2] σ17 (fun σ21 => (0 ≤ (σ10 175 p1.toNatClampNeg) → P (some (.int (σ10 175 p1.toNatClampNeg))) σ21) ∧ (¬ 0 ≤ (σ10 175 p1.toNatClampNeg) → P (some (.int (-1000000005))) σ21))) ∧ ((σ17 169 3) = 200 → P (some (.int (-1000000003))) σ17)) ∧ (¬ r18 < 0 → P (some (.int (-1000000002))) σ17))))))) ∧ (¬ (¬ p2 < 0 ∧ ¬ 11 < p2) → P (some (.int (-1000000001))) σ))) ∧ (¬ (¬ p1 < 0 ∧ ¬ (σ 169 2) - 1 < p1) → P (some (.int (-1000000001))) σ)) :
  TT g (vt_R 2) 0 0 D_X12_move none 0 [some (.ref (g.2.1 168)), some (.int p1), some (.int p2), none, none] [] σ P := by
  refine q_aload_n dX12_move_0 rfl ?_
  refine q_iload_n dX12_move_1 rfl ?_
  refine q_cVb (C := ¬ p1 < 0 ∧ ¬ (σ 169 2) - 1 < p1) (d' := 1) [.int p1] [] dX12_move_2 ok_X12_isShop mk_RX12_65 rc_168 rfl (Nat.le_of_ble_eq_true rfl) (by first | decide | omega) (fun Φ h9 => c_X12_isShop (σ := σ) Φ h9) (fun c1 => ?_) (fun c1 => ?_)
  · have h := h.1 c1
    refine q_if_eq (tgt := 21) dX12_move_5 (by decide) (fun c => absurd c (by decide)) (fun _ => ?_)
    refine q_iload_n dX12_move_8 rfl ?_
    refine q_ldc dX12_move_9 ct_RX12_71 ?_
    refine q_icmp_eq (tgt := 24) dX12_move_11 (by decide) (fun c2 => ?_) (fun c2 => ?_)
    · have h := h.1 c2
      refine q_iload_n dX12_move_24 rfl ?_
      refine q_ldc dX12_move_25 ct_RX12_71 ?_
      refine q_icmp_ne (tgt := 34) dX12_move_27 (by decide) (fun c => absurd c2 c) (fun _ => ?_)
      refine q_iconst (v := (-1)) dX12_move_30 (by decide) ?_
      refine q_goto (tgt := 35) dX12_move_31 (by decide) ?_
      refine q_istore_n (L' := [some (.ref (g.2.1 168)), some (.int p1), some (.int p2), some (.int (-1)), none]) dX12_move_35 (by decide) rfl rfl ?_
      refine q_aload_n dX12_move_36 rfl ?_
      refine q_aload_n dX12_move_37 rfl ?_
      refine q_getR dX12_move_38 fF_RX12_9 fl_168_0 ?_
      refine q_iconst (v := 0) dX12_move_41 (by decide) ?_
      refine q_ialdX (v := (σ 169 0)) dX12_move_42 ar_169 (vt_inl rfl) rfl ?_
      refine q_cV (d' := 1) [.int (σ 169 0)] [] dX12_move_43 ok_X12_findStands mk_RX12_72 rc_168 rfl (Nat.le_of_ble_eq_true rfl) (by first | decide | omega) h (fun v σ3 h => ?_)
      obtain ⟨rfl, h⟩ := h
      refine q_aload_n dX12_move_46 rfl ?_
      refine q_getR dX12_move_47 fF_RX12_28 fl_168_9 ?_
      refine q_iload_n dX12_move_50 rfl ?_
      obtain ⟨hi4, h⟩ := h
      refine q_ialdX (v := (σ3 175 p1.toNatClampNeg)) dX12_move_51 ar_175 hi4 rfl ?_
      refine q_istore (L' := [some (.ref (g.2.1 168)), some (.int p1), some (.int p2), some (.int (-1)), some (.int (σ3 175 p1.toNatClampNeg))]) dX12_move_52 (by decide) rfl rfl ?_
      refine q_iload dX12_move_54 rfl ?_
      refine q_iload_n dX12_move_56 rfl ?_
      refine q_icmp_eq (tgt := 72) dX12_move_57 (by decide) (fun c5 => ?_) (fun c5 => ?_)
      · have h := h.1 c5
        refine q_ldc dX12_move_72 ct_RX12_80 ?_
        exact q_iret .int rfl rfl dX12_move_74 h
      · have h := h.2 c5
        refine q_iload_n dX12_move_60 rfl ?_
        refine q_if_lt (tgt := 75) dX12_move_61 (by decide) (fun _ => ?_) (fun c => absurd (by decide) c)
        refine q_aload_n dX12_move_75 rfl ?_
        refine q_getR dX12_move_76 fF_RX12_9 fl_168_0 ?_
        refine q_iconst (v := 3) dX12_move_79 (by decide) ?_
        refine q_ialdX (v := (σ3 169 3)) dX12_move_80 ar_169 (vt_inl rfl) rfl ?_
        refine q_sipush (v := 200) dX12_move_81 (by decide) ?_
        refine q_icmp_ne (tgt := 90) dX12_move_84 (by decide) (fun c6 => ?_) (fun c6 => ?_)
        · have h := h.1 c6
          refine q_aload_n dX12_move_90 rfl ?_
          refine q_iload_n dX12_move_91 rfl ?_
          refine q_iload_n dX12_move_92 rfl ?_
          refine q_cV (d' := 0) [.int p1, .int (-1)] [] dX12_move_93 ok_X12_moves mk_RX12_81 rc_168 rfl (Nat.le_of_ble_eq_true rfl) (by first | decide | omega) h (fun v σ7 h => ?_)
          obtain ⟨rfl, h⟩ := h
          refine q_iload dX12_move_96 rfl ?_
          refine q_if_ge (tgt := 106) dX12_move_98 (by decide) (fun c8 => ?_) (fun c8 => ?_)
          · have h := h.1 c8
            refine q_iload dX12_move_106 rfl ?_
            exact q_iret .int rfl rfl dX12_move_108 h
          · have h := h.2 c8
            refine q_ldc dX12_move_101 ct_RX12_71 ?_
            refine q_goto (tgt := 108) dX12_move_103 (by decide) ?_
            exact q_iret .int rfl rfl dX12_move_108 h
        · have h := h.2 c6
          refine q_ldc dX12_move_87 ct_RX12_59 ?_
          exact q_iret .int rfl rfl dX12_move_89 h
    · have h := h.2 c2
      refine q_iload_n dX12_move_14 rfl ?_
      refine q_cSb (C := ¬ p2 < 0 ∧ ¬ 11 < p2) (d' := 1) [.int p2] [] dX12_move_15 ok_X12_isPlace mk_RX12_53 rfl (Nat.le_of_ble_eq_true rfl) (by first | decide | omega) (fun Φ h9 => c_X12_isPlace (σ := σ) Φ h9) (fun c9 => ?_) (fun c9 => ?_)
      · have h := h.1 c9
        refine q_if_ne (tgt := 24) dX12_move_18 (by decide) (fun _ => ?_) (fun c => absurd c (by decide))
        refine q_iload_n dX12_move_24 rfl ?_
        refine q_ldc dX12_move_25 ct_RX12_71 ?_
        refine q_icmp_ne (tgt := 34) dX12_move_27 (by decide) (fun _ => ?_) (fun c => absurd c c2)
        refine q_iload_n dX12_move_34 rfl ?_
        refine q_istore_n (L' := [some (.ref (g.2.1 168)), some (.int p1), some (.int p2), some (.int p2), none]) dX12_move_35 (by decide) rfl rfl ?_
        refine q_aload_n dX12_move_36 rfl ?_
        refine q_aload_n dX12_move_37 rfl ?_
        refine q_getR dX12_move_38 fF_RX12_9 fl_168_0 ?_
        refine q_iconst (v := 0) dX12_move_41 (by decide) ?_
        refine q_ialdX (v := (σ 169 0)) dX12_move_42 ar_169 (vt_inl rfl) rfl ?_
        refine q_cV (d' := 1) [.int (σ 169 0)] [] dX12_move_43 ok_X12_findStands mk_RX12_72 rc_168 rfl (Nat.le_of_ble_eq_true rfl) (by first | decide | omega) h (fun v σ10 h => ?_)
        obtain ⟨rfl, h⟩ := h
        refine q_aload_n dX12_move_46 rfl ?_
        refine q_getR dX12_move_47 fF_RX12_28 fl_168_9 ?_
        refine q_iload_n dX12_move_50 rfl ?_
        obtain ⟨hi11, h⟩ := h
        refine q_ialdX (v := (σ10 175 p1.toNatClampNeg)) dX12_move_51 ar_175 hi11 rfl ?_
        refine q_istore (L' := [some (.ref (g.2.1 168)), some (.int p1), some (.int p2), some (.int p2), some (.int (σ10 175 p1.toNatClampNeg))]) dX12_move_52 (by decide) rfl rfl ?_
        refine q_iload dX12_move_54 rfl ?_
        refine q_iload_n dX12_move_56 rfl ?_
        refine q_icmp_eq (tgt := 72) dX12_move_57 (by decide) (fun c12 => ?_) (fun c12 => ?_)
        · have h := h.1 c12
          refine q_ldc dX12_move_72 ct_RX12_80 ?_
          exact q_iret .int rfl rfl dX12_move_74 h
        · have h := h.2 c12
          refine q_iload_n dX12_move_60 rfl ?_
          refine q_if_lt (tgt := 75) dX12_move_61 (by decide) (fun c13 => ?_) (fun c13 => ?_)
          · have h := h.1 c13
            refine q_aload_n dX12_move_75 rfl ?_
            refine q_getR dX12_move_76 fF_RX12_9 fl_168_0 ?_
            refine q_iconst (v := 3) dX12_move_79 (by decide) ?_
            refine q_ialdX (v := (σ10 169 3)) dX12_move_80 ar_169 (vt_inl rfl) rfl ?_
            refine q_sipush (v := 200) dX12_move_81 (by decide) ?_
            refine q_icmp_ne (tgt := 90) dX12_move_84 (by decide) (fun c14 => ?_) (fun c14 => ?_)
            · have h := h.1 c14
              refine q_aload_n dX12_move_90 rfl ?_
              refine q_iload_n dX12_move_91 rfl ?_
              refine q_iload_n dX12_move_92 rfl ?_
              refine q_cV (d' := 0) [.int p1, .int p2] [] dX12_move_93 ok_X12_moves mk_RX12_81 rc_168 rfl (Nat.le_of_ble_eq_true rfl) (by first | decide | omega) h (fun v σ15 h => ?_)
              obtain ⟨rfl, h⟩ := h
              refine q_iload dX12_move_96 rfl ?_
              refine q_if_ge (tgt := 106) dX12_move_98 (by decide) (fun c16 => ?_) (fun c16 => ?_)
              · have h := h.1 c16
                refine q_iload dX12_move_106 rfl ?_
                exact q_iret .int rfl rfl dX12_move_108 h
              · have h := h.2 c16
                refine q_ldc dX12_move_101 ct_RX12_71 ?_
                refine q_goto (tgt := 108) dX12_move_103 (by decide) ?_
                exact q_iret .int rfl rfl dX12_move_108 h
            · have h := h.2 c14
              refine q_ldc dX12_move_87 ct_RX12_59 ?_
              exact q_iret .int rfl rfl dX12_move_89 h
          · have h := h.2 c13
            refine q_aload_n dX12_move_64 rfl ?_
            refine q_iload_n dX12_move_65 rfl ?_
            refine q_cV (d' := 0) [.int p2] [] dX12_move_66 ok_X12_shopAt mk_RX12_76 rc_168 rfl (Nat.le_of_ble_eq_true rfl) (by first | decide | omega) h (fun v σ17 h => ?_)
            obtain ⟨r18, rfl, h⟩ := h
            refine q_if_lt (tgt := 75) dX12_move_69 (by decide) (fun c19 => ?_) (fun c19 => ?_)
            · have h := h.1 c19
              refine q_aload_n dX12_move_75 rfl ?_
              refine q_getR dX12_move_76 fF_RX12_9 fl_168_0 ?_
              refine q_iconst (v := 3) dX12_move_79 (by decide) ?_
              refine q_ialdX (v := (σ17 169 3)) dX12_move_80 ar_169 (vt_inl rfl) rfl ?_
              refine q_sipush (v := 200) dX12_move_81 (by decide) ?_
              refine q_icmp_ne (tgt := 90) dX12_move_84 (by decide) (fun c20 => ?_) (fun c20 => ?_)
              · have h := h.1 c20
                refine q_aload_n dX12_move_90 rfl ?_
                refine q_iload_n dX12_move_91 rfl ?_
                refine q_iload_n dX12_move_92 rfl ?_
                refine q_cV (d' := 0) [.int p1, .int p2] [] dX12_move_93 ok_X12_moves mk_RX12_81 rc_168 rfl (Nat.le_of_ble_eq_true rfl) (by first | decide | omega) h (fun v σ21 h => ?_)
                obtain ⟨rfl, h⟩ := h
                refine q_iload dX12_move_96 rfl ?_
                refine q_if_ge (tgt := 106) dX12_move_98 (by decide) (fun c22 => ?_) (fun c22 => ?_)
                · have h := h.1 c22
                  refine q_iload dX12_move_106 rfl ?_
                  exact q_iret .int rfl rfl dX12_move_108 h
                · have h := h.2 c22
                  refine q_ldc dX12_move_101 ct_RX12_71 ?_
                  refine q_goto (tgt := 108) dX12_move_103 (by decide) ?_
                  exact q_iret .int rfl rfl dX12_move_108 h
              · have h := h.2 c20
                refine q_ldc dX12_move_87 ct_RX12_59 ?_
                exact q_iret .int rfl rfl dX12_move_89 h
            · have h := h.2 c19
              refine q_ldc dX12_move_72 ct_RX12_80 ?_
              exact q_iret .int rfl rfl dX12_move_74 h
      · have h := h.2 c9
        refine q_if_ne (tgt := 24) dX12_move_18 (by decide) (fun c => absurd rfl c) (fun _ => ?_)
        refine q_ldc dX12_move_21 ct_RX12_57 ?_
        exact q_iret .int rfl rfl dX12_move_23 h
  · have h := h.2 c1
    refine q_if_eq (tgt := 21) dX12_move_5 (by decide) (fun _ => ?_) (fun c => absurd (by decide) c)
    refine q_ldc dX12_move_21 ct_RX12_57 ?_
    exact q_iret .int rfl rfl dX12_move_23 h

theorem s_X12_months_0 (g : vt_GT) (σ : vt_Sg) (P : Option Value → vt_Sg → Prop) (p1 : Int32)
  (h : ((¬ p1 < (1 : Int32) ∧ ¬ (24 : Int32) < p1) → (((σ 169 0) + p1) ≤ 120 → P (some (.int ((σ 169 0) + p1))) (su σ 169 (upd (σ 169) 0 ((σ 169 0) + p1)))) ∧ (¬ ((σ 169 0) + p1) ≤ 120 → P (some (.int (-1000000001))) σ)) ∧ (¬ (¬ p1 < (1 : Int32) ∧ ¬ (24 : Int32) < p1) → P (some (.int (-1000000001))) σ)) :
  TT g (vt_R 1) 0 0 D_X12_months none 0 [some (.ref (g.2.1 168)), some (.int p1)] [] σ P := by
  refine q_iload_n dX12_months_0 rfl ?_
  refine q_iconst (v := 1) dX12_months_1 (by decide) ?_
  refine q_bipush (v := 24) dX12_months_2 (by decide) ?_
  refine q_cSb (C := ¬ p1 < (1 : Int32) ∧ ¬ (24 : Int32) < p1) (d' := 0) [.int p1, .int 1, .int 24] [] dX12_months_4 ok_X12_within mk_RX12_49 rfl (Nat.le_of_ble_eq_true rfl) (by first | decide | omega) (fun Φ h9 => c_X12_within (σ := σ) Φ h9) (fun c1 => ?_) (fun c1 => ?_)
  · have h := h.1 c1
    refine q_if_eq (tgt := 23) dX12_months_7 (by decide) (fun c => absurd c (by decide)) (fun _ => ?_)
    refine q_aload_n dX12_months_10 rfl ?_
    refine q_getR dX12_months_11 fF_RX12_9 fl_168_0 ?_
    refine q_iconst (v := 0) dX12_months_14 (by decide) ?_
    refine q_ialdX (v := (σ 169 0)) dX12_months_15 ar_169 (vt_inl rfl) rfl ?_
    refine q_iload_n dX12_months_16 rfl ?_
    refine q_iadd dX12_months_17 ?_
    refine q_bipush (v := 120) dX12_months_18 (by decide) ?_
    refine q_icmp_le (tgt := 26) dX12_months_20 (by decide) (fun c2 => ?_) (fun c2 => ?_)
    · have h := h.1 c2
      refine q_aload_n dX12_months_26 rfl ?_
      refine q_getR dX12_months_27 fF_RX12_9 fl_168_0 ?_
      refine q_iconst (v := 0) dX12_months_30 (by decide) ?_
      refine q_dup2 dX12_months_31 rfl rfl ?_
      refine q_ialdX (v := (σ 169 0)) dX12_months_32 ar_169 (vt_inl rfl) rfl ?_
      refine q_iload_n dX12_months_33 rfl ?_
      refine q_iadd dX12_months_34 ?_
      refine q_iastX (F := upd (σ 169) 0 ((σ 169 0) + p1)) dX12_months_35 ar_169 (vt_inl rfl) rfl ?_
      refine q_aload_n dX12_months_36 rfl ?_
      refine q_getR dX12_months_37 fF_RX12_9 fl_168_0 ?_
      refine q_iconst (v := 0) dX12_months_40 (by decide) ?_
      refine q_ialdX (v := ((σ 169 0) + p1)) dX12_months_41 ar_169 (vt_inl rfl) rfl ?_
      exact q_iret .int rfl rfl dX12_months_42 h
    · have h := h.2 c2
      refine q_ldc dX12_months_23 ct_RX12_57 ?_
      exact q_iret .int rfl rfl dX12_months_25 h
  · have h := h.2 c1
    refine q_if_eq (tgt := 23) dX12_months_7 (by decide) (fun _ => ?_) (fun c => absurd (by decide) c)
    refine q_ldc dX12_months_23 ct_RX12_57 ?_
    exact q_iret .int rfl rfl dX12_months_25 h

theorem s_X12_rule_0 (g : vt_GT) (σ : vt_Sg) (P : Option Value → vt_Sg → Prop) (p1 : Int32) (p2 : Int32)
  (h : ((¬ p1 < (0 : Int32) ∧ ¬ (1 : Int32) < p1) → (¬ p1 = 0 → ((¬ p2 < (100 : Int32) ∧ ¬ (999 : Int32) < p2) → vp_in (5 + p1) 2220 ∧ (P (some (.int (σ 169 (5 + p1).toNatClampNeg))) (su σ 169 (upd (σ 169) ((5 + p1).toNatClampNeg) p2)))) ∧ (¬ (¬ p2 < (100 : Int32) ∧ ¬ (999 : Int32) < p2) → P (some (.int (-1000000001))) σ)) ∧ (p1 = 0 → ((¬ p2 < (0 : Int32) ∧ ¬ (100 : Int32) < p2) → vp_in (5 + p1) 2220 ∧ (P (some (.int (σ 169 (5 + p1).toNatClampNeg))) (su σ 169 (upd (σ 169) ((5 + p1).toNatClampNeg) p2)))) ∧ (¬ (¬ p2 < (0 : Int32) ∧ ¬ (100 : Int32) < p2) → P (some (.int (-1000000001))) σ))) ∧ (¬ (¬ p1 < (0 : Int32) ∧ ¬ (1 : Int32) < p1) → P (some (.int (-1000000001))) σ)) :
  TT g (vt_R 1) 0 0 D_X12_rule none 0 [some (.ref (g.2.1 168)), some (.int p1), some (.int p2), none] [] σ P := by
  refine q_iload_n dX12_rule_0 rfl ?_
  refine q_iconst (v := 0) dX12_rule_1 (by decide) ?_
  refine q_iconst (v := 1) dX12_rule_2 (by decide) ?_
  refine q_cSb (C := ¬ p1 < (0 : Int32) ∧ ¬ (1 : Int32) < p1) (d' := 0) [.int p1, .int 0, .int 1] [] dX12_rule_3 ok_X12_within mk_RX12_49 rfl (Nat.le_of_ble_eq_true rfl) (by first | decide | omega) (fun Φ h9 => c_X12_within (σ := σ) Φ h9) (fun c1 => ?_) (fun c1 => ?_)
  · have h := h.1 c1
    refine q_if_eq (tgt := 38) dX12_rule_6 (by decide) (fun c => absurd c (by decide)) (fun _ => ?_)
    refine q_iload_n dX12_rule_9 rfl ?_
    refine q_iload_n dX12_rule_10 rfl ?_
    refine q_if_ne (tgt := 18) dX12_rule_11 (by decide) (fun c2 => ?_) (fun c2 => ?_)
    · have h := h.1 c2
      refine q_bipush (v := 100) dX12_rule_18 (by decide) ?_
      refine q_iload_n dX12_rule_20 rfl ?_
      refine q_if_ne (tgt := 29) dX12_rule_21 (by decide) (fun _ => ?_) (fun c => absurd c c2)
      refine q_sipush (v := 999) dX12_rule_29 (by decide) ?_
      refine q_cSb (C := ¬ p2 < (100 : Int32) ∧ ¬ (999 : Int32) < p2) (d' := 0) [.int p2, .int 100, .int 999] [] dX12_rule_32 ok_X12_within mk_RX12_49 rfl (Nat.le_of_ble_eq_true rfl) (by first | decide | omega) (fun Φ h9 => c_X12_within (σ := σ) Φ h9) (fun c3 => ?_) (fun c3 => ?_)
      · have h := h.1 c3
        refine q_if_ne (tgt := 41) dX12_rule_35 (by decide) (fun _ => ?_) (fun c => absurd c (by decide))
        refine q_aload_n dX12_rule_41 rfl ?_
        refine q_getR dX12_rule_42 fF_RX12_9 fl_168_0 ?_
        refine q_iconst (v := 5) dX12_rule_45 (by decide) ?_
        refine q_iload_n dX12_rule_46 rfl ?_
        refine q_iadd dX12_rule_47 ?_
        obtain ⟨hi4, h⟩ := h
        refine q_ialdX (v := (σ 169 (5 + p1).toNatClampNeg)) dX12_rule_48 ar_169 hi4 rfl ?_
        refine q_istore_n (L' := [some (.ref (g.2.1 168)), some (.int p1), some (.int p2), some (.int (σ 169 (5 + p1).toNatClampNeg))]) dX12_rule_49 (by decide) rfl rfl ?_
        refine q_aload_n dX12_rule_50 rfl ?_
        refine q_getR dX12_rule_51 fF_RX12_9 fl_168_0 ?_
        refine q_iconst (v := 5) dX12_rule_54 (by decide) ?_
        refine q_iload_n dX12_rule_55 rfl ?_
        refine q_iadd dX12_rule_56 ?_
        refine q_iload_n dX12_rule_57 rfl ?_
        refine q_iastX (F := upd (σ 169) ((5 + p1).toNatClampNeg) p2) dX12_rule_58 ar_169 hi4 rfl ?_
        refine q_iload_n dX12_rule_59 rfl ?_
        exact q_iret .int rfl rfl dX12_rule_60 h
      · have h := h.2 c3
        refine q_if_ne (tgt := 41) dX12_rule_35 (by decide) (fun c => absurd rfl c) (fun _ => ?_)
        refine q_ldc dX12_rule_38 ct_RX12_57 ?_
        exact q_iret .int rfl rfl dX12_rule_40 h
    · have h := h.2 c2
      refine q_iconst (v := 0) dX12_rule_14 (by decide) ?_
      refine q_goto (tgt := 20) dX12_rule_15 (by decide) ?_
      refine q_iload_n dX12_rule_20 rfl ?_
      refine q_if_ne (tgt := 29) dX12_rule_21 (by decide) (fun c => absurd c2 c) (fun _ => ?_)
      refine q_bipush (v := 100) dX12_rule_24 (by decide) ?_
      refine q_goto (tgt := 32) dX12_rule_26 (by decide) ?_
      refine q_cSb (C := ¬ p2 < (0 : Int32) ∧ ¬ (100 : Int32) < p2) (d' := 0) [.int p2, .int 0, .int 100] [] dX12_rule_32 ok_X12_within mk_RX12_49 rfl (Nat.le_of_ble_eq_true rfl) (by first | decide | omega) (fun Φ h9 => c_X12_within (σ := σ) Φ h9) (fun c5 => ?_) (fun c5 => ?_)
      · have h := h.1 c5
        refine q_if_ne (tgt := 41) dX12_rule_35 (by decide) (fun _ => ?_) (fun c => absurd c (by decide))
        refine q_aload_n dX12_rule_41 rfl ?_
        refine q_getR dX12_rule_42 fF_RX12_9 fl_168_0 ?_
        refine q_iconst (v := 5) dX12_rule_45 (by decide) ?_
        refine q_iload_n dX12_rule_46 rfl ?_
        refine q_iadd dX12_rule_47 ?_
        obtain ⟨hi6, h⟩ := h
        refine q_ialdX (v := (σ 169 (5 + p1).toNatClampNeg)) dX12_rule_48 ar_169 hi6 rfl ?_
        refine q_istore_n (L' := [some (.ref (g.2.1 168)), some (.int p1), some (.int p2), some (.int (σ 169 (5 + p1).toNatClampNeg))]) dX12_rule_49 (by decide) rfl rfl ?_
        refine q_aload_n dX12_rule_50 rfl ?_
        refine q_getR dX12_rule_51 fF_RX12_9 fl_168_0 ?_
        refine q_iconst (v := 5) dX12_rule_54 (by decide) ?_
        refine q_iload_n dX12_rule_55 rfl ?_
        refine q_iadd dX12_rule_56 ?_
        refine q_iload_n dX12_rule_57 rfl ?_
        refine q_iastX (F := upd (σ 169) ((5 + p1).toNatClampNeg) p2) dX12_rule_58 ar_169 hi6 rfl ?_
        refine q_iload_n dX12_rule_59 rfl ?_
        exact q_iret .int rfl rfl dX12_rule_60 h
      · have h := h.2 c5
        refine q_if_ne (tgt := 41) dX12_rule_35 (by decide) (fun c => absurd rfl c) (fun _ => ?_)
        refine q_ldc dX12_rule_38 ct_RX12_57 ?_
        exact q_iret .int rfl rfl dX12_rule_40 h
  · have h := h.2 c1
    refine q_if_eq (tgt := 38) dX12_rule_6 (by decide) (fun _ => ?_) (fun c => absurd (by decide) c)
    refine q_ldc dX12_rule_38 ct_RX12_57 ?_
    exact q_iret .int rfl rfl dX12_rule_40 h

theorem s_X12_pulls_0 (g : vt_GT) (σ : vt_Sg) (P : Option Value → vt_Sg → Prop) 
  (h : TT g (vt_R 1) 0 0 D_X12_pulls none 4 [some (.ref (g.2.1 168)), some (.int 0), some (.int 0)] [] σ P) :
  TT g (vt_R 1) 0 0 D_X12_pulls none 0 [some (.ref (g.2.1 168)), none, none] [] σ P := by
  refine q_iconst (v := 0) dX12_pulls_0 (by decide) ?_
  refine q_istore_n (L' := [some (.ref (g.2.1 168)), some (.int 0), none]) dX12_pulls_1 (by decide) rfl rfl ?_
  refine q_iconst (v := 0) dX12_pulls_2 (by decide) ?_
  refine q_istore_n (L' := [some (.ref (g.2.1 168)), some (.int 0), some (.int 0)]) dX12_pulls_3 (by decide) rfl rfl ?_
  exact h

theorem s_X12_pulls_4 (g : vt_GT) (σ : vt_Sg) (P : Option Value → vt_Sg → Prop) (x1 : Int32) (x2 : Int32)
  (h : (12 ≤ x2 → P (some (.int x1)) σ) ∧ (¬ 12 ≤ x2 → vp_in x2 12 ∧ ((0 ≤ (σ 175 x2.toNatClampNeg) → vp_in (30 + 8 * x2 + (2 : Int32)) 2220 ∧ (TT g (vt_R 1) 0 0 D_X12_pulls none 4 [some (.ref (g.2.1 168)), some (.int (x1 + (σ 169 (30 + 8 * x2 + (2 : Int32)).toNatClampNeg))), some (.int (x2 + 1))] [] σ P)) ∧ (¬ 0 ≤ (σ 175 x2.toNatClampNeg) → TT g (vt_R 1) 0 0 D_X12_pulls none 4 [some (.ref (g.2.1 168)), some (.int (x1 + 0)), some (.int (x2 + 1))] [] σ P)))) :
  TT g (vt_R 1) 0 0 D_X12_pulls none 4 [some (.ref (g.2.1 168)), some (.int x1), some (.int x2)] [] σ P := by
  refine q_iload_n dX12_pulls_4 rfl ?_
  refine q_bipush (v := 12) dX12_pulls_5 (by decide) ?_
  refine q_icmp_ge (tgt := 42) dX12_pulls_7 (by decide) (fun c1 => ?_) (fun c1 => ?_)
  · have h := h.1 c1
    refine q_iload_n dX12_pulls_42 rfl ?_
    exact q_iret .int rfl rfl dX12_pulls_43 h
  · have h := h.2 c1
    refine q_iload_n dX12_pulls_10 rfl ?_
    refine q_aload_n dX12_pulls_11 rfl ?_
    refine q_getR dX12_pulls_12 fF_RX12_28 fl_168_9 ?_
    refine q_iload_n dX12_pulls_15 rfl ?_
    obtain ⟨hi2, h⟩ := h
    refine q_ialdX (v := (σ 175 x2.toNatClampNeg)) dX12_pulls_16 ar_175 hi2 rfl ?_
    refine q_if_ge (tgt := 24) dX12_pulls_17 (by decide) (fun c3 => ?_) (fun c3 => ?_)
    · have h := h.1 c3
      refine q_aload_n dX12_pulls_24 rfl ?_
      refine q_getR dX12_pulls_25 fF_RX12_9 fl_168_0 ?_
      refine q_iload_n dX12_pulls_28 rfl ?_
      refine q_iconst (v := 2) dX12_pulls_29 (by decide) ?_
      refine q_cSi (e := (30 + 8 * x2 + (2 : Int32))) (d' := 0) [.int x2, .int 2] [.ref (g.2.1 169), .int x1] dX12_pulls_30 ok_X12_of mk_RX12_61 rfl (Nat.le_of_ble_eq_true rfl) (by first | decide | omega) (fun Φ h9 => c_X12_of (σ := σ) Φ h9) ?_
      obtain ⟨hi4, h⟩ := h
      refine q_ialdX (v := (σ 169 (30 + 8 * x2 + (2 : Int32)).toNatClampNeg)) dX12_pulls_33 ar_169 hi4 rfl ?_
      refine q_iadd dX12_pulls_34 ?_
      refine q_istore_n (L' := [some (.ref (g.2.1 168)), some (.int (x1 + (σ 169 (30 + 8 * x2 + (2 : Int32)).toNatClampNeg))), some (.int x2)]) dX12_pulls_35 (by decide) rfl rfl ?_
      refine q_iinc (L' := [some (.ref (g.2.1 168)), some (.int (x1 + (σ 169 (30 + 8 * x2 + (2 : Int32)).toNatClampNeg))), some (.int (x2 + 1))]) dX12_pulls_36 rfl (by decide) rfl rfl ?_
      refine q_goto (tgt := 4) dX12_pulls_39 (by decide) ?_
      exact h
    · have h := h.2 c3
      refine q_iconst (v := 0) dX12_pulls_20 (by decide) ?_
      refine q_goto (tgt := 34) dX12_pulls_21 (by decide) ?_
      refine q_iadd dX12_pulls_34 ?_
      refine q_istore_n (L' := [some (.ref (g.2.1 168)), some (.int (x1 + 0)), some (.int x2)]) dX12_pulls_35 (by decide) rfl rfl ?_
      refine q_iinc (L' := [some (.ref (g.2.1 168)), some (.int (x1 + 0)), some (.int (x2 + 1))]) dX12_pulls_36 rfl (by decide) rfl rfl ?_
      refine q_goto (tgt := 4) dX12_pulls_39 (by decide) ?_
      exact h

theorem s_X12_goFrom_0 (g : vt_GT) (σ : vt_Sg) (P : Option Value → vt_Sg → Prop) (p1 : Int32) (p2 : Int32) (p3 : Int32)
  (h : (p3 = 0 → P (some (.int 0)) σ) ∧ (¬ p3 = 0 → vp_in p2 12 ∧ ((0 ≤ (σ 175 p2.toNatClampNeg) → vp_in ((22 + (2 * p1)) + 1) 2220 ∧ (vp_in (30 + 8 * p2 + (2 : Int32)) 2220 ∧ (P (some (.int (((σ 169 ((22 + (2 * p1)) + 1).toNatClampNeg) * (σ 169 (30 + 8 * p2 + (2 : Int32)).toNatClampNeg)) / p3))) σ))) ∧ (¬ 0 ≤ (σ 175 p2.toNatClampNeg) → P (some (.int 0)) σ)))) :
  TT g (vt_R 1) 0 0 D_X12_goFrom none 0 [some (.ref (g.2.1 168)), some (.int p1), some (.int p2), some (.int p3)] [] σ P := by
  refine q_iload_n dX12_goFrom_0 rfl ?_
  refine q_if_eq (tgt := 13) dX12_goFrom_1 (by decide) (fun c1 => ?_) (fun c1 => ?_)
  · have h := h.1 c1
    refine q_iconst (v := 0) dX12_goFrom_13 (by decide) ?_
    refine q_goto (tgt := 43) dX12_goFrom_14 (by decide) ?_
    exact q_iret .int rfl rfl dX12_goFrom_43 h
  · have h := h.2 c1
    refine q_aload_n dX12_goFrom_4 rfl ?_
    refine q_getR dX12_goFrom_5 fF_RX12_28 fl_168_9 ?_
    refine q_iload_n dX12_goFrom_8 rfl ?_
    obtain ⟨hi2, h⟩ := h
    refine q_ialdX (v := (σ 175 p2.toNatClampNeg)) dX12_goFrom_9 ar_175 hi2 rfl ?_
    refine q_if_ge (tgt := 17) dX12_goFrom_10 (by decide) (fun c3 => ?_) (fun c3 => ?_)
    · have h := h.1 c3
      refine q_aload_n dX12_goFrom_17 rfl ?_
      refine q_getR dX12_goFrom_18 fF_RX12_9 fl_168_0 ?_
      refine q_bipush (v := 22) dX12_goFrom_21 (by decide) ?_
      refine q_iconst (v := 2) dX12_goFrom_23 (by decide) ?_
      refine q_iload_n dX12_goFrom_24 rfl ?_
      refine q_imul dX12_goFrom_25 ?_
      refine q_iadd dX12_goFrom_26 ?_
      refine q_iconst (v := 1) dX12_goFrom_27 (by decide) ?_
      refine q_iadd dX12_goFrom_28 ?_
      obtain ⟨hi4, h⟩ := h
      refine q_ialdX (v := (σ 169 ((22 + (2 * p1)) + 1).toNatClampNeg)) dX12_goFrom_29 ar_169 hi4 rfl ?_
      refine q_aload_n dX12_goFrom_30 rfl ?_
      refine q_getR dX12_goFrom_31 fF_RX12_9 fl_168_0 ?_
      refine q_iload_n dX12_goFrom_34 rfl ?_
      refine q_iconst (v := 2) dX12_goFrom_35 (by decide) ?_
      refine q_cSi (e := (30 + 8 * p2 + (2 : Int32))) (d' := 0) [.int p2, .int 2] [.ref (g.2.1 169), .int (σ 169 ((22 + (2 * p1)) + 1).toNatClampNeg)] dX12_goFrom_36 ok_X12_of mk_RX12_61 rfl (Nat.le_of_ble_eq_true rfl) (by first | decide | omega) (fun Φ h9 => c_X12_of (σ := σ) Φ h9) ?_
      obtain ⟨hi5, h⟩ := h
      refine q_ialdX (v := (σ 169 (30 + 8 * p2 + (2 : Int32)).toNatClampNeg)) dX12_goFrom_39 ar_169 hi5 rfl ?_
      refine q_imul dX12_goFrom_40 ?_
      refine q_iload_n dX12_goFrom_41 rfl ?_
      refine q_idiv dX12_goFrom_42 c1 ?_
      exact q_iret .int rfl rfl dX12_goFrom_43 h
    · have h := h.2 c3
      refine q_iconst (v := 0) dX12_goFrom_13 (by decide) ?_
      refine q_goto (tgt := 43) dX12_goFrom_14 (by decide) ?_
      exact q_iret .int rfl rfl dX12_goFrom_43 h

theorem s_X12_comers_0 (g : vt_GT) (σ : vt_Sg) (P : Option Value → vt_Sg → Prop) (p1 : Int32)
  (h : vt_Mi g 1 D_X12_pulls [.ref (g.2.1 168)] σ (fun r2 σ1 => TT g (vt_R 2) 0 0 D_X12_comers none 10 [some (.ref (g.2.1 168)), some (.int p1), some (.int r2), some (.int 0), some (.int 0)] [] σ1 P)) :
  TT g (vt_R 2) 0 0 D_X12_comers none 0 [some (.ref (g.2.1 168)), some (.int p1), none, none, none] [] σ P := by
  refine q_aload_n dX12_comers_0 rfl ?_
  refine q_cV (d' := 1) [] [] dX12_comers_1 ok_X12_pulls mk_RX12_85 rc_168 rfl (Nat.le_of_ble_eq_true rfl) (by first | decide | omega) h (fun v σ1 h => ?_)
  obtain ⟨r2, rfl, h⟩ := h
  refine q_istore_n (L' := [some (.ref (g.2.1 168)), some (.int p1), some (.int r2), none, none]) dX12_comers_4 (by decide) rfl rfl ?_
  refine q_iconst (v := 0) dX12_comers_5 (by decide) ?_
  refine q_istore_n (L' := [some (.ref (g.2.1 168)), some (.int p1), some (.int r2), some (.int 0), none]) dX12_comers_6 (by decide) rfl rfl ?_
  refine q_iconst (v := 0) dX12_comers_7 (by decide) ?_
  refine q_istore (L' := [some (.ref (g.2.1 168)), some (.int p1), some (.int r2), some (.int 0), some (.int 0)]) dX12_comers_8 (by decide) rfl rfl ?_
  exact h

theorem s_X12_comers_10 (g : vt_GT) (σ : vt_Sg) (P : Option Value → vt_Sg → Prop) (x1 : Int32) (x2 : Int32) (x3 : Int32) (x4 : Int32)
  (h : ((σ 169 1) ≤ x4 → P (some (.int x3)) σ) ∧ (¬ (σ 169 1) ≤ x4 → vt_Mi g 1 D_X12_goFrom [.ref (g.2.1 168), .int x4, .int x1, .int x2] σ (fun r3 σ2 => TT g (vt_R 2) 0 0 D_X12_comers none 10 [some (.ref (g.2.1 168)), some (.int x1), some (.int x2), some (.int (x3 + r3)), some (.int (x4 + 1))] [] σ2 P))) :
  TT g (vt_R 2) 0 0 D_X12_comers none 10 [some (.ref (g.2.1 168)), some (.int x1), some (.int x2), some (.int x3), some (.int x4)] [] σ P := by
  refine q_iload dX12_comers_10 rfl ?_
  refine q_aload_n dX12_comers_12 rfl ?_
  refine q_getR dX12_comers_13 fF_RX12_9 fl_168_0 ?_
  refine q_iconst (v := 1) dX12_comers_16 (by decide) ?_
  refine q_ialdX (v := (σ 169 1)) dX12_comers_17 ar_169 (vt_inl rfl) rfl ?_
  refine q_icmp_ge (tgt := 38) dX12_comers_18 (by decide) (fun c1 => ?_) (fun c1 => ?_)
  · have h := h.1 c1
    refine q_iload_n dX12_comers_38 rfl ?_
    exact q_iret .int rfl rfl dX12_comers_39 h
  · have h := h.2 c1
    refine q_iload_n dX12_comers_21 rfl ?_
    refine q_aload_n dX12_comers_22 rfl ?_
    refine q_iload dX12_comers_23 rfl ?_
    refine q_iload_n dX12_comers_25 rfl ?_
    refine q_iload_n dX12_comers_26 rfl ?_
    refine q_cV (d' := 1) [.int x4, .int x1, .int x2] [.int x3] dX12_comers_27 ok_X12_goFrom mk_RX12_89 rc_168 rfl (Nat.le_of_ble_eq_true rfl) (by first | decide | omega) h (fun v σ2 h => ?_)
    obtain ⟨r3, rfl, h⟩ := h
    refine q_iadd dX12_comers_30 ?_
    refine q_istore_n (L' := [some (.ref (g.2.1 168)), some (.int x1), some (.int x2), some (.int (x3 + r3)), some (.int x4)]) dX12_comers_31 (by decide) rfl rfl ?_
    refine q_iinc (L' := [some (.ref (g.2.1 168)), some (.int x1), some (.int x2), some (.int (x3 + r3)), some (.int (x4 + 1))]) dX12_comers_32 rfl (by decide) rfl rfl ?_
    refine q_goto (tgt := 10) dX12_comers_35 (by decide) ?_
    exact h

theorem s_X12_passers_0 (g : vt_GT) (σ : vt_Sg) (P : Option Value → vt_Sg → Prop) (p1 : Int32)
  (h : vt_Mi g 1 D_X12_pulls [.ref (g.2.1 168)] σ (fun r2 σ1 => TT g (vt_R 2) 0 0 D_X12_passers none 10 [some (.ref (g.2.1 168)), some (.int p1), some (.int r2), some (.int 0), some (.int 0), none, none, none] [] σ1 P)) :
  TT g (vt_R 2) 0 0 D_X12_passers none 0 [some (.ref (g.2.1 168)), some (.int p1), none, none, none, none, none, none] [] σ P := by
  refine q_aload_n dX12_passers_0 rfl ?_
  refine q_cV (d' := 1) [] [] dX12_passers_1 ok_X12_pulls mk_RX12_85 rc_168 rfl (Nat.le_of_ble_eq_true rfl) (by first | decide | omega) h (fun v σ1 h => ?_)
  obtain ⟨r2, rfl, h⟩ := h
  refine q_istore_n (L' := [some (.ref (g.2.1 168)), some (.int p1), some (.int r2), none, none, none, none, none]) dX12_passers_4 (by decide) rfl rfl ?_
  refine q_iconst (v := 0) dX12_passers_5 (by decide) ?_
  refine q_istore_n (L' := [some (.ref (g.2.1 168)), some (.int p1), some (.int r2), some (.int 0), none, none, none, none]) dX12_passers_6 (by decide) rfl rfl ?_
  refine q_iconst (v := 0) dX12_passers_7 (by decide) ?_
  refine q_istore (L' := [some (.ref (g.2.1 168)), some (.int p1), some (.int r2), some (.int 0), some (.int 0), none, none, none]) dX12_passers_8 (by decide) rfl rfl ?_
  exact h

theorem s_X12_passers_10 (g : vt_GT) (σ : vt_Sg) (P : Option Value → vt_Sg → Prop) (x1 : Int32) (x2 : Int32) (x3 : Int32) (x4 : Int32)
  (h : ((σ 169 1) ≤ x4 → P (some (.int x3)) σ) ∧ (¬ (σ 169 1) ≤ x4 → vp_in (22 + (2 * x4)) 2220 ∧ (TT g (vt_R 2) 0 0 D_X12_passers none 38 [some (.ref (g.2.1 168)), some (.int x1), some (.int x2), some (.int x3), some (.int x4), some (.int (σ 169 (22 + (2 * x4)).toNatClampNeg)), some (.int 0), none] [] σ P))) :
  TT g (vt_R 2) 0 0 D_X12_passers none 10 [some (.ref (g.2.1 168)), some (.int x1), some (.int x2), some (.int x3), some (.int x4), none, none, none] [] σ P := by
  refine q_iload dX12_passers_10 rfl ?_
  refine q_aload_n dX12_passers_12 rfl ?_
  refine q_getR dX12_passers_13 fF_RX12_9 fl_168_0 ?_
  refine q_iconst (v := 1) dX12_passers_16 (by decide) ?_
  refine q_ialdX (v := (σ 169 1)) dX12_passers_17 ar_169 (vt_inl rfl) rfl ?_
  refine q_icmp_ge (tgt := 137) dX12_passers_18 (by decide) (fun c1 => ?_) (fun c1 => ?_)
  · have h := h.1 c1
    refine q_iload_n dX12_passers_137 rfl ?_
    exact q_iret .int rfl rfl dX12_passers_138 h
  · have h := h.2 c1
    refine q_aload_n dX12_passers_21 rfl ?_
    refine q_getR dX12_passers_22 fF_RX12_9 fl_168_0 ?_
    refine q_bipush (v := 22) dX12_passers_25 (by decide) ?_
    refine q_iconst (v := 2) dX12_passers_27 (by decide) ?_
    refine q_iload dX12_passers_28 rfl ?_
    refine q_imul dX12_passers_30 ?_
    refine q_iadd dX12_passers_31 ?_
    obtain ⟨hi2, h⟩ := h
    refine q_ialdX (v := (σ 169 (22 + (2 * x4)).toNatClampNeg)) dX12_passers_32 ar_169 hi2 rfl ?_
    refine q_istore (L' := [some (.ref (g.2.1 168)), some (.int x1), some (.int x2), some (.int x3), some (.int x4), some (.int (σ 169 (22 + (2 * x4)).toNatClampNeg)), none, none]) dX12_passers_33 (by decide) rfl rfl ?_
    refine q_iconst (v := 0) dX12_passers_35 (by decide) ?_
    refine q_istore (L' := [some (.ref (g.2.1 168)), some (.int x1), some (.int x2), some (.int x3), some (.int x4), some (.int (σ 169 (22 + (2 * x4)).toNatClampNeg)), some (.int 0), none]) dX12_passers_36 (by decide) rfl rfl ?_
    exact h

theorem s_X12_passers_38 (g : vt_GT) (σ : vt_Sg) (P : Option Value → vt_Sg → Prop) (x1 : Int32) (x2 : Int32) (x3 : Int32) (x4 : Int32) (x5 : Int32) (x6 : Int32)
  (h : (12 ≤ x6 → TT g (vt_R 2) 0 0 D_X12_passers none 10 [some (.ref (g.2.1 168)), some (.int x1), some (.int x2), some (.int x3), some (.int (x4 + 1)), none, none, none] [] σ P) ∧ (¬ 12 ≤ x6 → vp_in x6 12 ∧ (((σ 175 x6.toNatClampNeg) < 0 → TT g (vt_R 2) 0 0 D_X12_passers none 38 [some (.ref (g.2.1 168)), some (.int x1), some (.int x2), some (.int (x3 + 0)), some (.int x4), some (.int x5), some (.int (x6 + 1)), none] [] σ P) ∧ (¬ (σ 175 x6.toNatClampNeg) < 0 → ((σ 175 x6.toNatClampNeg) = x1 → TT g (vt_R 2) 0 0 D_X12_passers none 38 [some (.ref (g.2.1 168)), some (.int x1), some (.int x2), some (.int (x3 + 0)), some (.int x4), some (.int x5), some (.int (x6 + 1)), none] [] σ P) ∧ (¬ (σ 175 x6.toNatClampNeg) = x1 → ((¬ x1 < (if (σ 175 x6.toNatClampNeg) < x5 then (σ 175 x6.toNatClampNeg) else x5) ∧ ¬ (if x5 < (σ 175 x6.toNatClampNeg) then (σ 175 x6.toNatClampNeg) else x5) < x1) → vt_Mi g 1 D_X12_goFrom [.ref (g.2.1 168), .int x4, .int x6, .int x2] σ (fun r7 σ6 => TT g (vt_R 2) 0 0 D_X12_passers none 38 [some (.ref (g.2.1 168)), some (.int x1), some (.int x2), some (.int (x3 + r7)), some (.int x4), some (.int x5), some (.int (x6 + 1)), none] [] σ6 P)) ∧ (¬ (¬ x1 < (if (σ 175 x6.toNatClampNeg) < x5 then (σ 175 x6.toNatClampNeg) else x5) ∧ ¬ (if x5 < (σ 175 x6.toNatClampNeg) then (σ 175 x6.toNatClampNeg) else x5) < x1) → TT g (vt_R 2) 0 0 D_X12_passers none 38 [some (.ref (g.2.1 168)), some (.int x1), some (.int x2), some (.int (x3 + 0)), some (.int x4), some (.int x5), some (.int (x6 + 1)), none] [] σ P)))))) :
  TT g (vt_R 2) 0 0 D_X12_passers none 38 [some (.ref (g.2.1 168)), some (.int x1), some (.int x2), some (.int x3), some (.int x4), some (.int x5), some (.int x6), none] [] σ P := by
  refine q_iload dX12_passers_38 rfl ?_
  refine q_bipush (v := 12) dX12_passers_40 (by decide) ?_
  refine q_icmp_ge (tgt := 131) dX12_passers_42 (by decide) (fun c1 => ?_) (fun c1 => ?_)
  · have h := h.1 c1
    refine q_iinc (L' := [some (.ref (g.2.1 168)), some (.int x1), some (.int x2), some (.int x3), some (.int (x4 + 1)), some (.int x5), some (.int x6), none]) dX12_passers_131 rfl (by decide) rfl rfl ?_
    refine q_goto (tgt := 10) dX12_passers_134 (by decide) ?_
    exact q_wk (by simp [vt_le]) h
  · have h := h.2 c1
    refine q_aload_n dX12_passers_45 rfl ?_
    refine q_getR dX12_passers_46 fF_RX12_28 fl_168_9 ?_
    refine q_iload dX12_passers_49 rfl ?_
    obtain ⟨hi2, h⟩ := h
    refine q_ialdX (v := (σ 175 x6.toNatClampNeg)) dX12_passers_51 ar_175 hi2 rfl ?_
    refine q_if_lt (tgt := 101) dX12_passers_52 (by decide) (fun c3 => ?_) (fun c3 => ?_)
    · have h := h.1 c3
      refine q_iconst (v := 0) dX12_passers_101 (by decide) ?_
      refine q_istore (L' := [some (.ref (g.2.1 168)), some (.int x1), some (.int x2), some (.int x3), some (.int x4), some (.int x5), some (.int x6), some (.int 0)]) dX12_passers_102 (by decide) rfl rfl ?_
      refine q_iload_n dX12_passers_104 rfl ?_
      refine q_iload dX12_passers_105 rfl ?_
      refine q_if_eq (tgt := 122) dX12_passers_107 (by decide) (fun _ => ?_) (fun c => absurd (by decide) c)
      refine q_iconst (v := 0) dX12_passers_122 (by decide) ?_
      refine q_iadd dX12_passers_123 ?_
      refine q_istore_n (L' := [some (.ref (g.2.1 168)), some (.int x1), some (.int x2), some (.int (x3 + 0)), some (.int x4), some (.int x5), some (.int x6), some (.int 0)]) dX12_passers_124 (by decide) rfl rfl ?_
      refine q_iinc (L' := [some (.ref (g.2.1 168)), some (.int x1), some (.int x2), some (.int (x3 + 0)), some (.int x4), some (.int x5), some (.int (x6 + 1)), some (.int 0)]) dX12_passers_125 rfl (by decide) rfl rfl ?_
      refine q_goto (tgt := 38) dX12_passers_128 (by decide) ?_
      exact q_wk (by simp [vt_le]) h
    · have h := h.2 c3
      refine q_aload_n dX12_passers_55 rfl ?_
      refine q_getR dX12_passers_56 fF_RX12_28 fl_168_9 ?_
      refine q_iload dX12_passers_59 rfl ?_
      refine q_ialdX (v := (σ 175 x6.toNatClampNeg)) dX12_passers_61 ar_175 hi2 rfl ?_
      refine q_iload_n dX12_passers_62 rfl ?_
      refine q_icmp_eq (tgt := 101) dX12_passers_63 (by decide) (fun c4 => ?_) (fun c4 => ?_)
      · have h := h.1 c4
        refine q_iconst (v := 0) dX12_passers_101 (by decide) ?_
        refine q_istore (L' := [some (.ref (g.2.1 168)), some (.int x1), some (.int x2), some (.int x3), some (.int x4), some (.int x5), some (.int x6), some (.int 0)]) dX12_passers_102 (by decide) rfl rfl ?_
        refine q_iload_n dX12_passers_104 rfl ?_
        refine q_iload dX12_passers_105 rfl ?_
        refine q_if_eq (tgt := 122) dX12_passers_107 (by decide) (fun _ => ?_) (fun c => absurd (by decide) c)
        refine q_iconst (v := 0) dX12_passers_122 (by decide) ?_
        refine q_iadd dX12_passers_123 ?_
        refine q_istore_n (L' := [some (.ref (g.2.1 168)), some (.int x1), some (.int x2), some (.int (x3 + 0)), some (.int x4), some (.int x5), some (.int x6), some (.int 0)]) dX12_passers_124 (by decide) rfl rfl ?_
        refine q_iinc (L' := [some (.ref (g.2.1 168)), some (.int x1), some (.int x2), some (.int (x3 + 0)), some (.int x4), some (.int x5), some (.int (x6 + 1)), some (.int 0)]) dX12_passers_125 rfl (by decide) rfl rfl ?_
        refine q_goto (tgt := 38) dX12_passers_128 (by decide) ?_
        exact q_wk (by simp [vt_le]) h
      · have h := h.2 c4
        refine q_iload_n dX12_passers_66 rfl ?_
        refine q_iload dX12_passers_67 rfl ?_
        refine q_aload_n dX12_passers_69 rfl ?_
        refine q_getR dX12_passers_70 fF_RX12_28 fl_168_9 ?_
        refine q_iload dX12_passers_73 rfl ?_
        refine q_ialdX (v := (σ 175 x6.toNatClampNeg)) dX12_passers_75 ar_175 hi2 rfl ?_
        refine q_min dX12_passers_76 mk_RX12_93 sta_min ini_math cod_min (Nat.le_of_ble_eq_true rfl) (by first | decide | omega) ?_
        refine q_iload dX12_passers_79 rfl ?_
        refine q_aload_n dX12_passers_81 rfl ?_
        refine q_getR dX12_passers_82 fF_RX12_28 fl_168_9 ?_
        refine q_iload dX12_passers_85 rfl ?_
        refine q_ialdX (v := (σ 175 x6.toNatClampNeg)) dX12_passers_87 ar_175 hi2 rfl ?_
        refine q_max dX12_passers_88 mk_RX12_98 sta_max ini_math cod_max (Nat.le_of_ble_eq_true rfl) (by first | decide | omega) ?_
        refine q_cSb (C := ¬ x1 < (if (σ 175 x6.toNatClampNeg) < x5 then (σ 175 x6.toNatClampNeg) else x5) ∧ ¬ (if x5 < (σ 175 x6.toNatClampNeg) then (σ 175 x6.toNatClampNeg) else x5) < x1) (d' := 0) [.int x1, .int (if (σ 175 x6.toNatClampNeg) < x5 then (σ 175 x6.toNatClampNeg) else x5), .int (if x5 < (σ 175 x6.toNatClampNeg) then (σ 175 x6.toNatClampNeg) else x5)] [] dX12_passers_91 ok_X12_within mk_RX12_49 rfl (Nat.le_of_ble_eq_true rfl) (by first | decide | omega) (fun Φ h9 => c_X12_within (σ := σ) Φ h9) (fun c5 => ?_) (fun c5 => ?_)
        · have h := h.1 c5
          refine q_if_eq (tgt := 101) dX12_passers_94 (by decide) (fun c => absurd c (by decide)) (fun _ => ?_)
          refine q_iconst (v := 1) dX12_passers_97 (by decide) ?_
          refine q_goto (tgt := 102) dX12_passers_98 (by decide) ?_
          refine q_istore (L' := [some (.ref (g.2.1 168)), some (.int x1), some (.int x2), some (.int x3), some (.int x4), some (.int x5), some (.int x6), some (.int 1)]) dX12_passers_102 (by decide) rfl rfl ?_
          refine q_iload_n dX12_passers_104 rfl ?_
          refine q_iload dX12_passers_105 rfl ?_
          refine q_if_eq (tgt := 122) dX12_passers_107 (by decide) (fun c => absurd c (by decide)) (fun _ => ?_)
          refine q_aload_n dX12_passers_110 rfl ?_
          refine q_iload dX12_passers_111 rfl ?_
          refine q_iload dX12_passers_113 rfl ?_
          refine q_iload_n dX12_passers_115 rfl ?_
          refine q_cV (d' := 1) [.int x4, .int x6, .int x2] [.int x3] dX12_passers_116 ok_X12_goFrom mk_RX12_89 rc_168 rfl (Nat.le_of_ble_eq_true rfl) (by first | decide | omega) h (fun v σ6 h => ?_)
          obtain ⟨r7, rfl, h⟩ := h
          refine q_goto (tgt := 123) dX12_passers_119 (by decide) ?_
          refine q_iadd dX12_passers_123 ?_
          refine q_istore_n (L' := [some (.ref (g.2.1 168)), some (.int x1), some (.int x2), some (.int (x3 + r7)), some (.int x4), some (.int x5), some (.int x6), some (.int 1)]) dX12_passers_124 (by decide) rfl rfl ?_
          refine q_iinc (L' := [some (.ref (g.2.1 168)), some (.int x1), some (.int x2), some (.int (x3 + r7)), some (.int x4), some (.int x5), some (.int (x6 + 1)), some (.int 1)]) dX12_passers_125 rfl (by decide) rfl rfl ?_
          refine q_goto (tgt := 38) dX12_passers_128 (by decide) ?_
          exact q_wk (by simp [vt_le]) h
        · have h := h.2 c5
          refine q_if_eq (tgt := 101) dX12_passers_94 (by decide) (fun _ => ?_) (fun c => absurd (by decide) c)
          refine q_iconst (v := 0) dX12_passers_101 (by decide) ?_
          refine q_istore (L' := [some (.ref (g.2.1 168)), some (.int x1), some (.int x2), some (.int x3), some (.int x4), some (.int x5), some (.int x6), some (.int 0)]) dX12_passers_102 (by decide) rfl rfl ?_
          refine q_iload_n dX12_passers_104 rfl ?_
          refine q_iload dX12_passers_105 rfl ?_
          refine q_if_eq (tgt := 122) dX12_passers_107 (by decide) (fun _ => ?_) (fun c => absurd (by decide) c)
          refine q_iconst (v := 0) dX12_passers_122 (by decide) ?_
          refine q_iadd dX12_passers_123 ?_
          refine q_istore_n (L' := [some (.ref (g.2.1 168)), some (.int x1), some (.int x2), some (.int (x3 + 0)), some (.int x4), some (.int x5), some (.int x6), some (.int 0)]) dX12_passers_124 (by decide) rfl rfl ?_
          refine q_iinc (L' := [some (.ref (g.2.1 168)), some (.int x1), some (.int x2), some (.int (x3 + 0)), some (.int x4), some (.int x5), some (.int (x6 + 1)), some (.int 0)]) dX12_passers_125 rfl (by decide) rfl rfl ?_
          refine q_goto (tgt := 38) dX12_passers_128 (by decide) ?_
          exact q_wk (by simp [vt_le]) h

theorem s_X12_foretold_0 (g : vt_GT) (σ : vt_Sg) (P : Option Value → vt_Sg → Prop) (p1 : Int32)
  (h : vt_Mi g 2 D_X12_comers [.ref (g.2.1 168), .int p1] σ (fun r2 σ1 => vp_in p1 12 ∧ (vt_Mi g 2 D_X12_passers [.ref (g.2.1 168), .int (σ1 175 p1.toNatClampNeg)] σ1 (fun r5 σ4 => vp_in (30 + 8 * p1 + (4 : Int32)) 2220 ∧ (vp_in (30 + 8 * p1 + (3 : Int32)) 2220 ∧ (P (some (.int ((r2 + ((r5 * (σ4 169 (30 + 8 * p1 + (4 : Int32)).toNatClampNeg)) / 1000)) * (σ4 169 (30 + 8 * p1 + (3 : Int32)).toNatClampNeg)))) σ4)))))) :
  TT g (vt_R 3) 0 0 D_X12_foretold none 0 [some (.ref (g.2.1 168)), some (.int p1)] [] σ P := by
  refine q_aload_n dX12_foretold_0 rfl ?_
  refine q_iload_n dX12_foretold_1 rfl ?_
  refine q_cV (d' := 2) [.int p1] [] dX12_foretold_2 ok_X12_comers mk_RX12_101 rc_168 rfl (Nat.le_of_ble_eq_true rfl) (by first | decide | omega) h (fun v σ1 h => ?_)
  obtain ⟨r2, rfl, h⟩ := h
  refine q_aload_n dX12_foretold_5 rfl ?_
  refine q_aload_n dX12_foretold_6 rfl ?_
  refine q_getR dX12_foretold_7 fF_RX12_28 fl_168_9 ?_
  refine q_iload_n dX12_foretold_10 rfl ?_
  obtain ⟨hi3, h⟩ := h
  refine q_ialdX (v := (σ1 175 p1.toNatClampNeg)) dX12_foretold_11 ar_175 hi3 rfl ?_
  refine q_cV (d' := 2) [.int (σ1 175 p1.toNatClampNeg)] [.int r2] dX12_foretold_12 ok_X12_passers mk_RX12_104 rc_168 rfl (Nat.le_of_ble_eq_true rfl) (by first | decide | omega) h (fun v σ4 h => ?_)
  obtain ⟨r5, rfl, h⟩ := h
  refine q_aload_n dX12_foretold_15 rfl ?_
  refine q_getR dX12_foretold_16 fF_RX12_9 fl_168_0 ?_
  refine q_iload_n dX12_foretold_19 rfl ?_
  refine q_iconst (v := 4) dX12_foretold_20 (by decide) ?_
  refine q_cSi (e := (30 + 8 * p1 + (4 : Int32))) (d' := 0) [.int p1, .int 4] [.ref (g.2.1 169), .int r5, .int r2] dX12_foretold_21 ok_X12_of mk_RX12_61 rfl (Nat.le_of_ble_eq_true rfl) (by first | decide | omega) (fun Φ h9 => c_X12_of (σ := σ4) Φ h9) ?_
  obtain ⟨hi6, h⟩ := h
  refine q_ialdX (v := (σ4 169 (30 + 8 * p1 + (4 : Int32)).toNatClampNeg)) dX12_foretold_24 ar_169 hi6 rfl ?_
  refine q_imul dX12_foretold_25 ?_
  refine q_sipush (v := 1000) dX12_foretold_26 (by decide) ?_
  refine q_idiv dX12_foretold_29 (by decide) ?_
  refine q_iadd dX12_foretold_30 ?_
  refine q_aload_n dX12_foretold_31 rfl ?_
  refine q_getR dX12_foretold_32 fF_RX12_9 fl_168_0 ?_
  refine q_iload_n dX12_foretold_35 rfl ?_
  refine q_iconst (v := 3) dX12_foretold_36 (by decide) ?_
  refine q_cSi (e := (30 + 8 * p1 + (3 : Int32))) (d' := 0) [.int p1, .int 3] [.ref (g.2.1 169), .int (r2 + ((r5 * (σ4 169 (30 + 8 * p1 + (4 : Int32)).toNatClampNeg)) / 1000))] dX12_foretold_37 ok_X12_of mk_RX12_61 rfl (Nat.le_of_ble_eq_true rfl) (by first | decide | omega) (fun Φ h9 => c_X12_of (σ := σ4) Φ h9) ?_
  obtain ⟨hi7, h⟩ := h
  refine q_ialdX (v := (σ4 169 (30 + 8 * p1 + (3 : Int32)).toNatClampNeg)) dX12_foretold_40 ar_169 hi7 rfl ?_
  refine q_imul dX12_foretold_41 ?_
  exact q_iret .int rfl rfl dX12_foretold_42 h

theorem s_X12_others_0 (g : vt_GT) (σ : vt_Sg) (P : Option Value → vt_Sg → Prop) (p1 : Int32) (p2 : Int32)
  (h : TT g (vt_R 1) 0 0 D_X12_others none 5 [some (.ref (g.2.1 168)), some (.int p1), some (.int p2), some (.int 0), some (.int 0), none, none, none] [] σ P) :
  TT g (vt_R 1) 0 0 D_X12_others none 0 [some (.ref (g.2.1 168)), some (.int p1), some (.int p2), none, none, none, none, none] [] σ P := by
  refine q_iconst (v := 0) dX12_others_0 (by decide) ?_
  refine q_istore_n (L' := [some (.ref (g.2.1 168)), some (.int p1), some (.int p2), some (.int 0), none, none, none, none]) dX12_others_1 (by decide) rfl rfl ?_
  refine q_iconst (v := 0) dX12_others_2 (by decide) ?_
  refine q_istore (L' := [some (.ref (g.2.1 168)), some (.int p1), some (.int p2), some (.int 0), some (.int 0), none, none, none]) dX12_others_3 (by decide) rfl rfl ?_
  exact h

theorem s_X12_others_5 (g : vt_GT) (σ : vt_Sg) (P : Option Value → vt_Sg → Prop) (x1 : Int32) (x2 : Int32) (x3 : Int32) (x4 : Int32)
  (h : (12 ≤ x4 → (¬ x2 = 7 → P (some (.int x3)) σ) ∧ (x2 = 7 → (x3 ≤ 1 → P (some (.int x3)) σ) ∧ (¬ x3 ≤ 1 → P (some (.int 1)) σ))) ∧ (¬ 12 ≤ x4 → (x4 = x1 → TT g (vt_R 1) 0 0 D_X12_others none 5 [some (.ref (g.2.1 168)), some (.int x1), some (.int x2), some (.int x3), some (.int (x4 + 1)), none, none, none] [] σ P) ∧ (¬ x4 = x1 → vp_in x4 12 ∧ ((0 ≤ (σ 175 x4.toNatClampNeg) → vp_in x1 12 ∧ (vp_in (30 + 8 * x4 + (1 : Int32)) 2220 ∧ (vp_in (30 + 8 * x1 + (1 : Int32)) 2220 ∧ ((¬ (σ 169 (30 + 8 * x4 + (1 : Int32)).toNatClampNeg) = (σ 169 (30 + 8 * x1 + (1 : Int32)).toNatClampNeg) → (x2 = 4 → TT g (vt_R 1) 0 0 D_X12_others none 5 [some (.ref (g.2.1 168)), some (.int x1), some (.int x2), some (.int (x3 + 1)), some (.int (x4 + 1)), none, none, none] [] σ P) ∧ (¬ x2 = 4 → (¬ x2 = 5 → (¬ x2 = 6 → TT g (vt_R 1) 0 0 D_X12_others none 5 [some (.ref (g.2.1 168)), some (.int x1), some (.int x2), some (.int (x3 + 0)), some (.int (x4 + 1)), none, none, none] [] σ P) ∧ (x2 = 6 → (¬ (if 0 ≤ ((σ 175 x4.toNatClampNeg) - (σ 175 x1.toNatClampNeg)) then ((σ 175 x4.toNatClampNeg) - (σ 175 x1.toNatClampNeg)) else 0 - ((σ 175 x4.toNatClampNeg) - (σ 175 x1.toNatClampNeg))) = 1 → TT g (vt_R 1) 0 0 D_X12_others none 5 [some (.ref (g.2.1 168)), some (.int x1), some (.int x2), some (.int (x3 + 0)), some (.int (x4 + 1)), none, none, none] [] σ P) ∧ ((if 0 ≤ ((σ 175 x4.toNatClampNeg) - (σ 175 x1.toNatClampNeg)) then ((σ 175 x4.toNatClampNeg) - (σ 175 x1.toNatClampNeg)) else 0 - ((σ 175 x4.toNatClampNeg) - (σ 175 x1.toNatClampNeg))) = 1 → TT g (vt_R 1) 0 0 D_X12_others none 5 [some (.ref (g.2.1 168)), some (.int x1), some (.int x2), some (.int (x3 + 1)), some (.int (x4 + 1)), none, none, none] [] σ P))) ∧ (x2 = 5 → vp_in (30 + 8 * x4 + (0 : Int32)) 2220 ∧ ((¬ (σ 169 (30 + 8 * x4 + (0 : Int32)).toNatClampNeg) = 1 → TT g (vt_R 1) 0 0 D_X12_others none 5 [some (.ref (g.2.1 168)), some (.int x1), some (.int x2), some (.int (x3 + 0)), some (.int (x4 + 1)), none, none, none] [] σ P) ∧ ((σ 169 (30 + 8 * x4 + (0 : Int32)).toNatClampNeg) = 1 → TT g (vt_R 1) 0 0 D_X12_others none 5 [some (.ref (g.2.1 168)), some (.int x1), some (.int x2), some (.int (x3 + 1)), some (.int (x4 + 1)), none, none, none] [] σ P))))) ∧ ((σ 169 (30 + 8 * x4 + (1 : Int32)).toNatClampNeg) = (σ 169 (30 + 8 * x1 + (1 : Int32)).toNatClampNeg) → vp_in (30 + 8 * x1 + (5 : Int32)) 2220 ∧ (((σ 169 (30 + 8 * x1 + (5 : Int32)).toNatClampNeg) < (if 0 ≤ ((σ 175 x4.toNatClampNeg) - (σ 175 x1.toNatClampNeg)) then ((σ 175 x4.toNatClampNeg) - (σ 175 x1.toNatClampNeg)) else 0 - ((σ 175 x4.toNatClampNeg) - (σ 175 x1.toNatClampNeg))) → (x2 = 4 → TT g (vt_R 1) 0 0 D_X12_others none 5 [some (.ref (g.2.1 168)), some (.int x1), some (.int x2), some (.int (x3 + 1)), some (.int (x4 + 1)), none, none, none] [] σ P) ∧ (¬ x2 = 4 → (¬ x2 = 5 → (¬ x2 = 6 → TT g (vt_R 1) 0 0 D_X12_others none 5 [some (.ref (g.2.1 168)), some (.int x1), some (.int x2), some (.int (x3 + 0)), some (.int (x4 + 1)), none, none, none] [] σ P) ∧ (x2 = 6 → (¬ (if 0 ≤ ((σ 175 x4.toNatClampNeg) - (σ 175 x1.toNatClampNeg)) then ((σ 175 x4.toNatClampNeg) - (σ 175 x1.toNatClampNeg)) else 0 - ((σ 175 x4.toNatClampNeg) - (σ 175 x1.toNatClampNeg))) = 1 → TT g (vt_R 1) 0 0 D_X12_others none 5 [some (.ref (g.2.1 168)), some (.int x1), some (.int x2), some (.int (x3 + 0)), some (.int (x4 + 1)), none, none, none] [] σ P) ∧ ((if 0 ≤ ((σ 175 x4.toNatClampNeg) - (σ 175 x1.toNatClampNeg)) then ((σ 175 x4.toNatClampNeg) - (σ 175 x1.toNatClampNeg)) else 0 - ((σ 175 x4.toNatClampNeg) - (σ 175 x1.toNatClampNeg))) = 1 → TT g (vt_R 1) 0 0 D_X12_others none 5 [some (.ref (g.2.1 168)), some (.int x1), some (.int x2), some (.int (x3 + 1)), some (.int (x4 + 1)), none, none, none] [] σ P))) ∧ (x2 = 5 → vp_in (30 + 8 * x4 + (0 : Int32)) 2220 ∧ ((¬ (σ 169 (30 + 8 * x4 + (0 : Int32)).toNatClampNeg) = 1 → TT g (vt_R 1) 0 0 D_X12_others none 5 [some (.ref (g.2.1 168)), some (.int x1), some (.int x2), some (.int (x3 + 0)), some (.int (x4 + 1)), none, none, none] [] σ P) ∧ ((σ 169 (30 + 8 * x4 + (0 : Int32)).toNatClampNeg) = 1 → TT g (vt_R 1) 0 0 D_X12_others none 5 [some (.ref (g.2.1 168)), some (.int x1), some (.int x2), some (.int (x3 + 1)), some (.int (x4 + 1)), none, none, none] [] σ P))))) ∧ (¬ (σ 169 (30 + 8 * x1 + (5 : Int32)).toNatClampNeg) < (if 0 ≤ ((σ 175 x4.toNatClampNeg) - (σ 175 x1.toNatClampNeg)) then ((σ 175 x4.toNatClampNeg) - (σ 175 x1.toNatClampNeg)) else 0 - ((σ 175 x4.toNatClampNeg) - (σ 175 x1.toNatClampNeg))) → (x2 = 4 → TT g (vt_R 1) 0 0 D_X12_others none 5 [some (.ref (g.2.1 168)), some (.int x1), some (.int x2), some (.int (x3 + 1)), some (.int (x4 + 1)), none, none, none] [] σ P) ∧ (¬ x2 = 4 → (¬ x2 = 5 → (¬ x2 = 6 → TT g (vt_R 1) 0 0 D_X12_others none 5 [some (.ref (g.2.1 168)), some (.int x1), some (.int x2), some (.int (x3 + 1)), some (.int (x4 + 1)), none, none, none] [] σ P) ∧ (x2 = 6 → (¬ (if 0 ≤ ((σ 175 x4.toNatClampNeg) - (σ 175 x1.toNatClampNeg)) then ((σ 175 x4.toNatClampNeg) - (σ 175 x1.toNatClampNeg)) else 0 - ((σ 175 x4.toNatClampNeg) - (σ 175 x1.toNatClampNeg))) = 1 → TT g (vt_R 1) 0 0 D_X12_others none 5 [some (.ref (g.2.1 168)), some (.int x1), some (.int x2), some (.int (x3 + 0)), some (.int (x4 + 1)), none, none, none] [] σ P) ∧ ((if 0 ≤ ((σ 175 x4.toNatClampNeg) - (σ 175 x1.toNatClampNeg)) then ((σ 175 x4.toNatClampNeg) - (σ 175 x1.toNatClampNeg)) else 0 - ((σ 175 x4.toNatClampNeg) - (σ 175 x1.toNatClampNeg))) = 1 → TT g (vt_R 1) 0 0 D_X12_others none 5 [some (.ref (g.2.1 168)), some (.int x1), some (.int x2), some (.int (x3 + 1)), some (.int (x4 + 1)), none, none, none] [] σ P))) ∧ (x2 = 5 → vp_in (30 + 8 * x4 + (0 : Int32)) 2220 ∧ ((¬ (σ 169 (30 + 8 * x4 + (0 : Int32)).toNatClampNeg) = 1 → TT g (vt_R 1) 0 0 D_X12_others none 5 [some (.ref (g.2.1 168)), some (.int x1), some (.int x2), some (.int (x3 + 0)), some (.int (x4 + 1)), none, none, none] [] σ P) ∧ ((σ 169 (30 + 8 * x4 + (0 : Int32)).toNatClampNeg) = 1 → TT g (vt_R 1) 0 0 D_X12_others none 5 [some (.ref (g.2.1 168)), some (.int x1), some (.int x2), some (.int (x3 + 1)), some (.int (x4 + 1)), none, none, none] [] σ P))))))))))) ∧ (¬ 0 ≤ (σ 175 x4.toNatClampNeg) → TT g (vt_R 1) 0 0 D_X12_others none 5 [some (.ref (g.2.1 168)), some (.int x1), some (.int x2), some (.int x3), some (.int (x4 + 1)), none, none, none] [] σ P))))) :
  TT g (vt_R 1) 0 0 D_X12_others none 5 [some (.ref (g.2.1 168)), some (.int x1), some (.int x2), some (.int x3), some (.int x4), none, none, none] [] σ P := by
  refine q_iload dX12_others_5 rfl ?_
  refine q_bipush (v := 12) dX12_others_7 (by decide) ?_
  refine q_icmp_ge (tgt := 170) dX12_others_9 (by decide) (fun c1 => ?_) (fun c1 => ?_)
  · have h := h.1 c1
    refine q_iload_n dX12_others_170 rfl ?_
    refine q_bipush (v := 7) dX12_others_171 (by decide) ?_
    refine q_icmp_ne (tgt := 185) dX12_others_173 (by decide) (fun c2 => ?_) (fun c2 => ?_)
    · have h := h.1 c2
      refine q_iload_n dX12_others_185 rfl ?_
      exact q_iret .int rfl rfl dX12_others_186 h
    · have h := h.2 c2
      refine q_iload_n dX12_others_176 rfl ?_
      refine q_iconst (v := 1) dX12_others_177 (by decide) ?_
      refine q_icmp_le (tgt := 185) dX12_others_178 (by decide) (fun c3 => ?_) (fun c3 => ?_)
      · have h := h.1 c3
        refine q_iload_n dX12_others_185 rfl ?_
        exact q_iret .int rfl rfl dX12_others_186 h
      · have h := h.2 c3
        refine q_iconst (v := 1) dX12_others_181 (by decide) ?_
        refine q_goto (tgt := 186) dX12_others_182 (by decide) ?_
        exact q_iret .int rfl rfl dX12_others_186 h
  · have h := h.2 c1
    refine q_iload dX12_others_12 rfl ?_
    refine q_iload_n dX12_others_14 rfl ?_
    refine q_icmp_eq (tgt := 164) dX12_others_15 (by decide) (fun c4 => ?_) (fun c4 => ?_)
    · have h := h.1 c4
      refine q_iinc (L' := [some (.ref (g.2.1 168)), some (.int x1), some (.int x2), some (.int x3), some (.int (x4 + 1)), none, none, none]) dX12_others_164 rfl (by decide) rfl rfl ?_
      refine q_goto (tgt := 5) dX12_others_167 (by decide) ?_
      exact h
    · have h := h.2 c4
      refine q_aload_n dX12_others_18 rfl ?_
      refine q_getR dX12_others_19 fF_RX12_28 fl_168_9 ?_
      refine q_iload dX12_others_22 rfl ?_
      obtain ⟨hi5, h⟩ := h
      refine q_ialdX (v := (σ 175 x4.toNatClampNeg)) dX12_others_24 ar_175 hi5 rfl ?_
      refine q_if_ge (tgt := 31) dX12_others_25 (by decide) (fun c6 => ?_) (fun c6 => ?_)
      · have h := h.1 c6
        refine q_aload_n dX12_others_31 rfl ?_
        refine q_getR dX12_others_32 fF_RX12_28 fl_168_9 ?_
        refine q_iload dX12_others_35 rfl ?_
        refine q_ialdX (v := (σ 175 x4.toNatClampNeg)) dX12_others_37 ar_175 hi5 rfl ?_
        refine q_aload_n dX12_others_38 rfl ?_
        refine q_getR dX12_others_39 fF_RX12_28 fl_168_9 ?_
        refine q_iload_n dX12_others_42 rfl ?_
        obtain ⟨hi7, h⟩ := h
        refine q_ialdX (v := (σ 175 x1.toNatClampNeg)) dX12_others_43 ar_175 hi7 rfl ?_
        refine q_isub dX12_others_44 ?_
        refine q_abs dX12_others_45 mk_RX12_107 sta_abs ini_math cod_abs (Nat.le_of_ble_eq_true rfl) (by first | decide | omega) ?_
        refine q_istore (L' := [some (.ref (g.2.1 168)), some (.int x1), some (.int x2), some (.int x3), some (.int x4), some (.int (if 0 ≤ ((σ 175 x4.toNatClampNeg) - (σ 175 x1.toNatClampNeg)) then ((σ 175 x4.toNatClampNeg) - (σ 175 x1.toNatClampNeg)) else 0 - ((σ 175 x4.toNatClampNeg) - (σ 175 x1.toNatClampNeg)))), none, none]) dX12_others_48 (by decide) rfl rfl ?_
        refine q_aload_n dX12_others_50 rfl ?_
        refine q_getR dX12_others_51 fF_RX12_9 fl_168_0 ?_
        refine q_iload dX12_others_54 rfl ?_
        refine q_iconst (v := 1) dX12_others_56 (by decide) ?_
        refine q_cSi (e := (30 + 8 * x4 + (1 : Int32))) (d' := 0) [.int x4, .int 1] [.ref (g.2.1 169)] dX12_others_57 ok_X12_of mk_RX12_61 rfl (Nat.le_of_ble_eq_true rfl) (by first | decide | omega) (fun Φ h9 => c_X12_of (σ := σ) Φ h9) ?_
        obtain ⟨hi8, h⟩ := h
        refine q_ialdX (v := (σ 169 (30 + 8 * x4 + (1 : Int32)).toNatClampNeg)) dX12_others_60 ar_169 hi8 rfl ?_
        refine q_aload_n dX12_others_61 rfl ?_
        refine q_getR dX12_others_62 fF_RX12_9 fl_168_0 ?_
        refine q_iload_n dX12_others_65 rfl ?_
        refine q_iconst (v := 1) dX12_others_66 (by decide) ?_
        refine q_cSi (e := (30 + 8 * x1 + (1 : Int32))) (d' := 0) [.int x1, .int 1] [.ref (g.2.1 169), .int (σ 169 (30 + 8 * x4 + (1 : Int32)).toNatClampNeg)] dX12_others_67 ok_X12_of mk_RX12_61 rfl (Nat.le_of_ble_eq_true rfl) (by first | decide | omega) (fun Φ h9 => c_X12_of (σ := σ) Φ h9) ?_
        obtain ⟨hi9, h⟩ := h
        refine q_ialdX (v := (σ 169 (30 + 8 * x1 + (1 : Int32)).toNatClampNeg)) dX12_others_70 ar_169 hi9 rfl ?_
        refine q_icmp_ne (tgt := 93) dX12_others_71 (by decide) (fun c10 => ?_) (fun c10 => ?_)
        · have h := h.1 c10
          refine q_iconst (v := 0) dX12_others_93 (by decide) ?_
          refine q_istore (L' := [some (.ref (g.2.1 168)), some (.int x1), some (.int x2), some (.int x3), some (.int x4), some (.int (if 0 ≤ ((σ 175 x4.toNatClampNeg) - (σ 175 x1.toNatClampNeg)) then ((σ 175 x4.toNatClampNeg) - (σ 175 x1.toNatClampNeg)) else 0 - ((σ 175 x4.toNatClampNeg) - (σ 175 x1.toNatClampNeg)))), some (.int 0), none]) dX12_others_94 (by decide) rfl rfl ?_
          refine q_iload_n dX12_others_96 rfl ?_
          refine q_iconst (v := 4) dX12_others_97 (by decide) ?_
          refine q_icmp_eq (tgt := 144) dX12_others_98 (by decide) (fun c11 => ?_) (fun c11 => ?_)
          · have h := h.1 c11
            refine q_iconst (v := 1) dX12_others_144 (by decide) ?_
            refine q_goto (tgt := 149) dX12_others_145 (by decide) ?_
            refine q_istore (L' := [some (.ref (g.2.1 168)), some (.int x1), some (.int x2), some (.int x3), some (.int x4), some (.int (if 0 ≤ ((σ 175 x4.toNatClampNeg) - (σ 175 x1.toNatClampNeg)) then ((σ 175 x4.toNatClampNeg) - (σ 175 x1.toNatClampNeg)) else 0 - ((σ 175 x4.toNatClampNeg) - (σ 175 x1.toNatClampNeg)))), some (.int 0), some (.int 1)]) dX12_others_149 (by decide) rfl rfl ?_
            refine q_iload_n dX12_others_151 rfl ?_
            refine q_iload dX12_others_152 rfl ?_
            refine q_if_eq (tgt := 161) dX12_others_154 (by decide) (fun c => absurd c (by decide)) (fun _ => ?_)
            refine q_iconst (v := 1) dX12_others_157 (by decide) ?_
            refine q_goto (tgt := 162) dX12_others_158 (by decide) ?_
            refine q_iadd dX12_others_162 ?_
            refine q_istore_n (L' := [some (.ref (g.2.1 168)), some (.int x1), some (.int x2), some (.int (x3 + 1)), some (.int x4), some (.int (if 0 ≤ ((σ 175 x4.toNatClampNeg) - (σ 175 x1.toNatClampNeg)) then ((σ 175 x4.toNatClampNeg) - (σ 175 x1.toNatClampNeg)) else 0 - ((σ 175 x4.toNatClampNeg) - (σ 175 x1.toNatClampNeg)))), some (.int 0), some (.int 1)]) dX12_others_163 (by decide) rfl rfl ?_
            refine q_iinc (L' := [some (.ref (g.2.1 168)), some (.int x1), some (.int x2), some (.int (x3 + 1)), some (.int (x4 + 1)), some (.int (if 0 ≤ ((σ 175 x4.toNatClampNeg) - (σ 175 x1.toNatClampNeg)) then ((σ 175 x4.toNatClampNeg) - (σ 175 x1.toNatClampNeg)) else 0 - ((σ 175 x4.toNatClampNeg) - (σ 175 x1.toNatClampNeg)))), some (.int 0), some (.int 1)]) dX12_others_164 rfl (by decide) rfl rfl ?_
            refine q_goto (tgt := 5) dX12_others_167 (by decide) ?_
            exact q_wk (by simp [vt_le]) h
          · have h := h.2 c11
            refine q_iload_n dX12_others_101 rfl ?_
            refine q_iconst (v := 5) dX12_others_102 (by decide) ?_
            refine q_icmp_ne (tgt := 124) dX12_others_103 (by decide) (fun c12 => ?_) (fun c12 => ?_)
            · have h := h.1 c12
              refine q_iload_n dX12_others_124 rfl ?_
              refine q_bipush (v := 6) dX12_others_125 (by decide) ?_
              refine q_icmp_ne (tgt := 139) dX12_others_127 (by decide) (fun c13 => ?_) (fun c13 => ?_)
              · have h := h.1 c13
                refine q_iload dX12_others_139 rfl ?_
                refine q_if_eq (tgt := 148) dX12_others_141 (by decide) (fun _ => ?_) (fun c => absurd (by decide) c)
                refine q_iconst (v := 0) dX12_others_148 (by decide) ?_
                refine q_istore (L' := [some (.ref (g.2.1 168)), some (.int x1), some (.int x2), some (.int x3), some (.int x4), some (.int (if 0 ≤ ((σ 175 x4.toNatClampNeg) - (σ 175 x1.toNatClampNeg)) then ((σ 175 x4.toNatClampNeg) - (σ 175 x1.toNatClampNeg)) else 0 - ((σ 175 x4.toNatClampNeg) - (σ 175 x1.toNatClampNeg)))), some (.int 0), some (.int 0)]) dX12_others_149 (by decide) rfl rfl ?_
                refine q_iload_n dX12_others_151 rfl ?_
                refine q_iload dX12_others_152 rfl ?_
                refine q_if_eq (tgt := 161) dX12_others_154 (by decide) (fun _ => ?_) (fun c => absurd (by decide) c)
                refine q_iconst (v := 0) dX12_others_161 (by decide) ?_
                refine q_iadd dX12_others_162 ?_
                refine q_istore_n (L' := [some (.ref (g.2.1 168)), some (.int x1), some (.int x2), some (.int (x3 + 0)), some (.int x4), some (.int (if 0 ≤ ((σ 175 x4.toNatClampNeg) - (σ 175 x1.toNatClampNeg)) then ((σ 175 x4.toNatClampNeg) - (σ 175 x1.toNatClampNeg)) else 0 - ((σ 175 x4.toNatClampNeg) - (σ 175 x1.toNatClampNeg)))), some (.int 0), some (.int 0)]) dX12_others_163 (by decide) rfl rfl ?_
                refine q_iinc (L' := [some (.ref (g.2.1 168)), some (.int x1), some (.int x2), some (.int (x3 + 0)), some (.int (x4 + 1)), some (.int (if 0 ≤ ((σ 175 x4.toNatClampNeg) - (σ 175 x1.toNatClampNeg)) then ((σ 175 x4.toNatClampNeg) - (σ 175 x1.toNatClampNeg)) else 0 - ((σ 175 x4.toNatClampNeg) - (σ 175 x1.toNatClampNeg)))), some (.int 0), some (.int 0)]) dX12_others_164 rfl (by decide) rfl rfl ?_
                refine q_goto (tgt := 5) dX12_others_167 (by decide) ?_
                exact q_wk (by simp [vt_le]) h
              · have h := h.2 c13
                refine q_iload dX12_others_130 rfl ?_
                refine q_iconst (v := 1) dX12_others_132 (by decide) ?_
                refine q_icmp_ne (tgt := 148) dX12_others_133 (by decide) (fun c14 => ?_) (fun c14 => ?_)
                · have h := h.1 c14
                  refine q_iconst (v := 0) dX12_others_148 (by decide) ?_
                  refine q_istore (L' := [some (.ref (g.2.1 168)), some (.int x1), some (.int x2), some (.int x3), some (.int x4), some (.int (if 0 ≤ ((σ 175 x4.toNatClampNeg) - (σ 175 x1.toNatClampNeg)) then ((σ 175 x4.toNatClampNeg) - (σ 175 x1.toNatClampNeg)) else 0 - ((σ 175 x4.toNatClampNeg) - (σ 175 x1.toNatClampNeg)))), some (.int 0), some (.int 0)]) dX12_others_149 (by decide) rfl rfl ?_
                  refine q_iload_n dX12_others_151 rfl ?_
                  refine q_iload dX12_others_152 rfl ?_
                  refine q_if_eq (tgt := 161) dX12_others_154 (by decide) (fun _ => ?_) (fun c => absurd (by decide) c)
                  refine q_iconst (v := 0) dX12_others_161 (by decide) ?_
                  refine q_iadd dX12_others_162 ?_
                  refine q_istore_n (L' := [some (.ref (g.2.1 168)), some (.int x1), some (.int x2), some (.int (x3 + 0)), some (.int x4), some (.int (if 0 ≤ ((σ 175 x4.toNatClampNeg) - (σ 175 x1.toNatClampNeg)) then ((σ 175 x4.toNatClampNeg) - (σ 175 x1.toNatClampNeg)) else 0 - ((σ 175 x4.toNatClampNeg) - (σ 175 x1.toNatClampNeg)))), some (.int 0), some (.int 0)]) dX12_others_163 (by decide) rfl rfl ?_
                  refine q_iinc (L' := [some (.ref (g.2.1 168)), some (.int x1), some (.int x2), some (.int (x3 + 0)), some (.int (x4 + 1)), some (.int (if 0 ≤ ((σ 175 x4.toNatClampNeg) - (σ 175 x1.toNatClampNeg)) then ((σ 175 x4.toNatClampNeg) - (σ 175 x1.toNatClampNeg)) else 0 - ((σ 175 x4.toNatClampNeg) - (σ 175 x1.toNatClampNeg)))), some (.int 0), some (.int 0)]) dX12_others_164 rfl (by decide) rfl rfl ?_
                  refine q_goto (tgt := 5) dX12_others_167 (by decide) ?_
                  exact q_wk (by simp [vt_le]) h
                · have h := h.2 c14
                  refine q_goto (tgt := 144) dX12_others_136 (by decide) ?_
                  refine q_iconst (v := 1) dX12_others_144 (by decide) ?_
                  refine q_goto (tgt := 149) dX12_others_145 (by decide) ?_
                  refine q_istore (L' := [some (.ref (g.2.1 168)), some (.int x1), some (.int x2), some (.int x3), some (.int x4), some (.int (if 0 ≤ ((σ 175 x4.toNatClampNeg) - (σ 175 x1.toNatClampNeg)) then ((σ 175 x4.toNatClampNeg) - (σ 175 x1.toNatClampNeg)) else 0 - ((σ 175 x4.toNatClampNeg) - (σ 175 x1.toNatClampNeg)))), some (.int 0), some (.int 1)]) dX12_others_149 (by decide) rfl rfl ?_
                  refine q_iload_n dX12_others_151 rfl ?_
                  refine q_iload dX12_others_152 rfl ?_
                  refine q_if_eq (tgt := 161) dX12_others_154 (by decide) (fun c => absurd c (by decide)) (fun _ => ?_)
                  refine q_iconst (v := 1) dX12_others_157 (by decide) ?_
                  refine q_goto (tgt := 162) dX12_others_158 (by decide) ?_
                  refine q_iadd dX12_others_162 ?_
                  refine q_istore_n (L' := [some (.ref (g.2.1 168)), some (.int x1), some (.int x2), some (.int (x3 + 1)), some (.int x4), some (.int (if 0 ≤ ((σ 175 x4.toNatClampNeg) - (σ 175 x1.toNatClampNeg)) then ((σ 175 x4.toNatClampNeg) - (σ 175 x1.toNatClampNeg)) else 0 - ((σ 175 x4.toNatClampNeg) - (σ 175 x1.toNatClampNeg)))), some (.int 0), some (.int 1)]) dX12_others_163 (by decide) rfl rfl ?_
                  refine q_iinc (L' := [some (.ref (g.2.1 168)), some (.int x1), some (.int x2), some (.int (x3 + 1)), some (.int (x4 + 1)), some (.int (if 0 ≤ ((σ 175 x4.toNatClampNeg) - (σ 175 x1.toNatClampNeg)) then ((σ 175 x4.toNatClampNeg) - (σ 175 x1.toNatClampNeg)) else 0 - ((σ 175 x4.toNatClampNeg) - (σ 175 x1.toNatClampNeg)))), some (.int 0), some (.int 1)]) dX12_others_164 rfl (by decide) rfl rfl ?_
                  refine q_goto (tgt := 5) dX12_others_167 (by decide) ?_
                  exact q_wk (by simp [vt_le]) h
            · have h := h.2 c12
              refine q_aload_n dX12_others_106 rfl ?_
              refine q_getR dX12_others_107 fF_RX12_9 fl_168_0 ?_
              refine q_iload dX12_others_110 rfl ?_
              refine q_iconst (v := 0) dX12_others_112 (by decide) ?_
              refine q_cSi (e := (30 + 8 * x4 + (0 : Int32))) (d' := 0) [.int x4, .int 0] [.ref (g.2.1 169)] dX12_others_113 ok_X12_of mk_RX12_61 rfl (Nat.le_of_ble_eq_true rfl) (by first | decide | omega) (fun Φ h9 => c_X12_of (σ := σ) Φ h9) ?_
              obtain ⟨hi15, h⟩ := h
              refine q_ialdX (v := (σ 169 (30 + 8 * x4 + (0 : Int32)).toNatClampNeg)) dX12_others_116 ar_169 hi15 rfl ?_
              refine q_iconst (v := 1) dX12_others_117 (by decide) ?_
              refine q_icmp_ne (tgt := 148) dX12_others_118 (by decide) (fun c16 => ?_) (fun c16 => ?_)
              · have h := h.1 c16
                refine q_iconst (v := 0) dX12_others_148 (by decide) ?_
                refine q_istore (L' := [some (.ref (g.2.1 168)), some (.int x1), some (.int x2), some (.int x3), some (.int x4), some (.int (if 0 ≤ ((σ 175 x4.toNatClampNeg) - (σ 175 x1.toNatClampNeg)) then ((σ 175 x4.toNatClampNeg) - (σ 175 x1.toNatClampNeg)) else 0 - ((σ 175 x4.toNatClampNeg) - (σ 175 x1.toNatClampNeg)))), some (.int 0), some (.int 0)]) dX12_others_149 (by decide) rfl rfl ?_
                refine q_iload_n dX12_others_151 rfl ?_
                refine q_iload dX12_others_152 rfl ?_
                refine q_if_eq (tgt := 161) dX12_others_154 (by decide) (fun _ => ?_) (fun c => absurd (by decide) c)
                refine q_iconst (v := 0) dX12_others_161 (by decide) ?_
                refine q_iadd dX12_others_162 ?_
                refine q_istore_n (L' := [some (.ref (g.2.1 168)), some (.int x1), some (.int x2), some (.int (x3 + 0)), some (.int x4), some (.int (if 0 ≤ ((σ 175 x4.toNatClampNeg) - (σ 175 x1.toNatClampNeg)) then ((σ 175 x4.toNatClampNeg) - (σ 175 x1.toNatClampNeg)) else 0 - ((σ 175 x4.toNatClampNeg) - (σ 175 x1.toNatClampNeg)))), some (.int 0), some (.int 0)]) dX12_others_163 (by decide) rfl rfl ?_
                refine q_iinc (L' := [some (.ref (g.2.1 168)), some (.int x1), some (.int x2), some (.int (x3 + 0)), some (.int (x4 + 1)), some (.int (if 0 ≤ ((σ 175 x4.toNatClampNeg) - (σ 175 x1.toNatClampNeg)) then ((σ 175 x4.toNatClampNeg) - (σ 175 x1.toNatClampNeg)) else 0 - ((σ 175 x4.toNatClampNeg) - (σ 175 x1.toNatClampNeg)))), some (.int 0), some (.int 0)]) dX12_others_164 rfl (by decide) rfl rfl ?_
                refine q_goto (tgt := 5) dX12_others_167 (by decide) ?_
                exact q_wk (by simp [vt_le]) h
              · have h := h.2 c16
                refine q_goto (tgt := 144) dX12_others_121 (by decide) ?_
                refine q_iconst (v := 1) dX12_others_144 (by decide) ?_
                refine q_goto (tgt := 149) dX12_others_145 (by decide) ?_
                refine q_istore (L' := [some (.ref (g.2.1 168)), some (.int x1), some (.int x2), some (.int x3), some (.int x4), some (.int (if 0 ≤ ((σ 175 x4.toNatClampNeg) - (σ 175 x1.toNatClampNeg)) then ((σ 175 x4.toNatClampNeg) - (σ 175 x1.toNatClampNeg)) else 0 - ((σ 175 x4.toNatClampNeg) - (σ 175 x1.toNatClampNeg)))), some (.int 0), some (.int 1)]) dX12_others_149 (by decide) rfl rfl ?_
                refine q_iload_n dX12_others_151 rfl ?_
                refine q_iload dX12_others_152 rfl ?_
                refine q_if_eq (tgt := 161) dX12_others_154 (by decide) (fun c => absurd c (by decide)) (fun _ => ?_)
                refine q_iconst (v := 1) dX12_others_157 (by decide) ?_
                refine q_goto (tgt := 162) dX12_others_158 (by decide) ?_
                refine q_iadd dX12_others_162 ?_
                refine q_istore_n (L' := [some (.ref (g.2.1 168)), some (.int x1), some (.int x2), some (.int (x3 + 1)), some (.int x4), some (.int (if 0 ≤ ((σ 175 x4.toNatClampNeg) - (σ 175 x1.toNatClampNeg)) then ((σ 175 x4.toNatClampNeg) - (σ 175 x1.toNatClampNeg)) else 0 - ((σ 175 x4.toNatClampNeg) - (σ 175 x1.toNatClampNeg)))), some (.int 0), some (.int 1)]) dX12_others_163 (by decide) rfl rfl ?_
                refine q_iinc (L' := [some (.ref (g.2.1 168)), some (.int x1), some (.int x2), some (.int (x3 + 1)), some (.int (x4 + 1)), some (.int (if 0 ≤ ((σ 175 x4.toNatClampNeg) - (σ 175 x1.toNatClampNeg)) then ((σ 175 x4.toNatClampNeg) - (σ 175 x1.toNatClampNeg)) else 0 - ((σ 175 x4.toNatClampNeg) - (σ 175 x1.toNatClampNeg)))), some (.int 0), some (.int 1)]) dX12_others_164 rfl (by decide) rfl rfl ?_
                refine q_goto (tgt := 5) dX12_others_167 (by decide) ?_
                exact q_wk (by simp [vt_le]) h
        · have h := h.2 c10
          refine q_iload dX12_others_74 rfl ?_
          refine q_aload_n dX12_others_76 rfl ?_
          refine q_getR dX12_others_77 fF_RX12_9 fl_168_0 ?_
          refine q_iload_n dX12_others_80 rfl ?_
          refine q_iconst (v := 5) dX12_others_81 (by decide) ?_
          refine q_cSi (e := (30 + 8 * x1 + (5 : Int32))) (d' := 0) [.int x1, .int 5] [.ref (g.2.1 169), .int (if 0 ≤ ((σ 175 x4.toNatClampNeg) - (σ 175 x1.toNatClampNeg)) then ((σ 175 x4.toNatClampNeg) - (σ 175 x1.toNatClampNeg)) else 0 - ((σ 175 x4.toNatClampNeg) - (σ 175 x1.toNatClampNeg)))] dX12_others_82 ok_X12_of mk_RX12_61 rfl (Nat.le_of_ble_eq_true rfl) (by first | decide | omega) (fun Φ h9 => c_X12_of (σ := σ) Φ h9) ?_
          obtain ⟨hi17, h⟩ := h
          refine q_ialdX (v := (σ 169 (30 + 8 * x1 + (5 : Int32)).toNatClampNeg)) dX12_others_85 ar_169 hi17 rfl ?_
          refine q_icmp_gt (tgt := 93) dX12_others_86 (by decide) (fun c18 => ?_) (fun c18 => ?_)
          · have h := h.1 c18
            refine q_iconst (v := 0) dX12_others_93 (by decide) ?_
            refine q_istore (L' := [some (.ref (g.2.1 168)), some (.int x1), some (.int x2), some (.int x3), some (.int x4), some (.int (if 0 ≤ ((σ 175 x4.toNatClampNeg) - (σ 175 x1.toNatClampNeg)) then ((σ 175 x4.toNatClampNeg) - (σ 175 x1.toNatClampNeg)) else 0 - ((σ 175 x4.toNatClampNeg) - (σ 175 x1.toNatClampNeg)))), some (.int 0), none]) dX12_others_94 (by decide) rfl rfl ?_
            refine q_iload_n dX12_others_96 rfl ?_
            refine q_iconst (v := 4) dX12_others_97 (by decide) ?_
            refine q_icmp_eq (tgt := 144) dX12_others_98 (by decide) (fun c19 => ?_) (fun c19 => ?_)
            · have h := h.1 c19
              refine q_iconst (v := 1) dX12_others_144 (by decide) ?_
              refine q_goto (tgt := 149) dX12_others_145 (by decide) ?_
              refine q_istore (L' := [some (.ref (g.2.1 168)), some (.int x1), some (.int x2), some (.int x3), some (.int x4), some (.int (if 0 ≤ ((σ 175 x4.toNatClampNeg) - (σ 175 x1.toNatClampNeg)) then ((σ 175 x4.toNatClampNeg) - (σ 175 x1.toNatClampNeg)) else 0 - ((σ 175 x4.toNatClampNeg) - (σ 175 x1.toNatClampNeg)))), some (.int 0), some (.int 1)]) dX12_others_149 (by decide) rfl rfl ?_
              refine q_iload_n dX12_others_151 rfl ?_
              refine q_iload dX12_others_152 rfl ?_
              refine q_if_eq (tgt := 161) dX12_others_154 (by decide) (fun c => absurd c (by decide)) (fun _ => ?_)
              refine q_iconst (v := 1) dX12_others_157 (by decide) ?_
              refine q_goto (tgt := 162) dX12_others_158 (by decide) ?_
              refine q_iadd dX12_others_162 ?_
              refine q_istore_n (L' := [some (.ref (g.2.1 168)), some (.int x1), some (.int x2), some (.int (x3 + 1)), some (.int x4), some (.int (if 0 ≤ ((σ 175 x4.toNatClampNeg) - (σ 175 x1.toNatClampNeg)) then ((σ 175 x4.toNatClampNeg) - (σ 175 x1.toNatClampNeg)) else 0 - ((σ 175 x4.toNatClampNeg) - (σ 175 x1.toNatClampNeg)))), some (.int 0), some (.int 1)]) dX12_others_163 (by decide) rfl rfl ?_
              refine q_iinc (L' := [some (.ref (g.2.1 168)), some (.int x1), some (.int x2), some (.int (x3 + 1)), some (.int (x4 + 1)), some (.int (if 0 ≤ ((σ 175 x4.toNatClampNeg) - (σ 175 x1.toNatClampNeg)) then ((σ 175 x4.toNatClampNeg) - (σ 175 x1.toNatClampNeg)) else 0 - ((σ 175 x4.toNatClampNeg) - (σ 175 x1.toNatClampNeg)))), some (.int 0), some (.int 1)]) dX12_others_164 rfl (by decide) rfl rfl ?_
              refine q_goto (tgt := 5) dX12_others_167 (by decide) ?_
              exact q_wk (by simp [vt_le]) h
            · have h := h.2 c19
              refine q_iload_n dX12_others_101 rfl ?_
              refine q_iconst (v := 5) dX12_others_102 (by decide) ?_
              refine q_icmp_ne (tgt := 124) dX12_others_103 (by decide) (fun c20 => ?_) (fun c20 => ?_)
              · have h := h.1 c20
                refine q_iload_n dX12_others_124 rfl ?_
                refine q_bipush (v := 6) dX12_others_125 (by decide) ?_
                refine q_icmp_ne (tgt := 139) dX12_others_127 (by decide) (fun c21 => ?_) (fun c21 => ?_)
                · have h := h.1 c21
                  refine q_iload dX12_others_139 rfl ?_
                  refine q_if_eq (tgt := 148) dX12_others_141 (by decide) (fun _ => ?_) (fun c => absurd (by decide) c)
                  refine q_iconst (v := 0) dX12_others_148 (by decide) ?_
                  refine q_istore (L' := [some (.ref (g.2.1 168)), some (.int x1), some (.int x2), some (.int x3), some (.int x4), some (.int (if 0 ≤ ((σ 175 x4.toNatClampNeg) - (σ 175 x1.toNatClampNeg)) then ((σ 175 x4.toNatClampNeg) - (σ 175 x1.toNatClampNeg)) else 0 - ((σ 175 x4.toNatClampNeg) - (σ 175 x1.toNatClampNeg)))), some (.int 0), some (.int 0)]) dX12_others_149 (by decide) rfl rfl ?_
                  refine q_iload_n dX12_others_151 rfl ?_
                  refine q_iload dX12_others_152 rfl ?_
                  refine q_if_eq (tgt := 161) dX12_others_154 (by decide) (fun _ => ?_) (fun c => absurd (by decide) c)
                  refine q_iconst (v := 0) dX12_others_161 (by decide) ?_
                  refine q_iadd dX12_others_162 ?_
                  refine q_istore_n (L' := [some (.ref (g.2.1 168)), some (.int x1), some (.int x2), some (.int (x3 + 0)), some (.int x4), some (.int (if 0 ≤ ((σ 175 x4.toNatClampNeg) - (σ 175 x1.toNatClampNeg)) then ((σ 175 x4.toNatClampNeg) - (σ 175 x1.toNatClampNeg)) else 0 - ((σ 175 x4.toNatClampNeg) - (σ 175 x1.toNatClampNeg)))), some (.int 0), some (.int 0)]) dX12_others_163 (by decide) rfl rfl ?_
                  refine q_iinc (L' := [some (.ref (g.2.1 168)), some (.int x1), some (.int x2), some (.int (x3 + 0)), some (.int (x4 + 1)), some (.int (if 0 ≤ ((σ 175 x4.toNatClampNeg) - (σ 175 x1.toNatClampNeg)) then ((σ 175 x4.toNatClampNeg) - (σ 175 x1.toNatClampNeg)) else 0 - ((σ 175 x4.toNatClampNeg) - (σ 175 x1.toNatClampNeg)))), some (.int 0), some (.int 0)]) dX12_others_164 rfl (by decide) rfl rfl ?_
                  refine q_goto (tgt := 5) dX12_others_167 (by decide) ?_
                  exact q_wk (by simp [vt_le]) h
                · have h := h.2 c21
                  refine q_iload dX12_others_130 rfl ?_
                  refine q_iconst (v := 1) dX12_others_132 (by decide) ?_
                  refine q_icmp_ne (tgt := 148) dX12_others_133 (by decide) (fun c22 => ?_) (fun c22 => ?_)
                  · have h := h.1 c22
                    refine q_iconst (v := 0) dX12_others_148 (by decide) ?_
                    refine q_istore (L' := [some (.ref (g.2.1 168)), some (.int x1), some (.int x2), some (.int x3), some (.int x4), some (.int (if 0 ≤ ((σ 175 x4.toNatClampNeg) - (σ 175 x1.toNatClampNeg)) then ((σ 175 x4.toNatClampNeg) - (σ 175 x1.toNatClampNeg)) else 0 - ((σ 175 x4.toNatClampNeg) - (σ 175 x1.toNatClampNeg)))), some (.int 0), some (.int 0)]) dX12_others_149 (by decide) rfl rfl ?_
                    refine q_iload_n dX12_others_151 rfl ?_
                    refine q_iload dX12_others_152 rfl ?_
                    refine q_if_eq (tgt := 161) dX12_others_154 (by decide) (fun _ => ?_) (fun c => absurd (by decide) c)
                    refine q_iconst (v := 0) dX12_others_161 (by decide) ?_
                    refine q_iadd dX12_others_162 ?_
                    refine q_istore_n (L' := [some (.ref (g.2.1 168)), some (.int x1), some (.int x2), some (.int (x3 + 0)), some (.int x4), some (.int (if 0 ≤ ((σ 175 x4.toNatClampNeg) - (σ 175 x1.toNatClampNeg)) then ((σ 175 x4.toNatClampNeg) - (σ 175 x1.toNatClampNeg)) else 0 - ((σ 175 x4.toNatClampNeg) - (σ 175 x1.toNatClampNeg)))), some (.int 0), some (.int 0)]) dX12_others_163 (by decide) rfl rfl ?_
                    refine q_iinc (L' := [some (.ref (g.2.1 168)), some (.int x1), some (.int x2), some (.int (x3 + 0)), some (.int (x4 + 1)), some (.int (if 0 ≤ ((σ 175 x4.toNatClampNeg) - (σ 175 x1.toNatClampNeg)) then ((σ 175 x4.toNatClampNeg) - (σ 175 x1.toNatClampNeg)) else 0 - ((σ 175 x4.toNatClampNeg) - (σ 175 x1.toNatClampNeg)))), some (.int 0), some (.int 0)]) dX12_others_164 rfl (by decide) rfl rfl ?_
                    refine q_goto (tgt := 5) dX12_others_167 (by decide) ?_
                    exact q_wk (by simp [vt_le]) h
                  · have h := h.2 c22
                    refine q_goto (tgt := 144) dX12_others_136 (by decide) ?_
                    refine q_iconst (v := 1) dX12_others_144 (by decide) ?_
                    refine q_goto (tgt := 149) dX12_others_145 (by decide) ?_
                    refine q_istore (L' := [some (.ref (g.2.1 168)), some (.int x1), some (.int x2), some (.int x3), some (.int x4), some (.int (if 0 ≤ ((σ 175 x4.toNatClampNeg) - (σ 175 x1.toNatClampNeg)) then ((σ 175 x4.toNatClampNeg) - (σ 175 x1.toNatClampNeg)) else 0 - ((σ 175 x4.toNatClampNeg) - (σ 175 x1.toNatClampNeg)))), some (.int 0), some (.int 1)]) dX12_others_149 (by decide) rfl rfl ?_
                    refine q_iload_n dX12_others_151 rfl ?_
                    refine q_iload dX12_others_152 rfl ?_
                    refine q_if_eq (tgt := 161) dX12_others_154 (by decide) (fun c => absurd c (by decide)) (fun _ => ?_)
                    refine q_iconst (v := 1) dX12_others_157 (by decide) ?_
                    refine q_goto (tgt := 162) dX12_others_158 (by decide) ?_
                    refine q_iadd dX12_others_162 ?_
                    refine q_istore_n (L' := [some (.ref (g.2.1 168)), some (.int x1), some (.int x2), some (.int (x3 + 1)), some (.int x4), some (.int (if 0 ≤ ((σ 175 x4.toNatClampNeg) - (σ 175 x1.toNatClampNeg)) then ((σ 175 x4.toNatClampNeg) - (σ 175 x1.toNatClampNeg)) else 0 - ((σ 175 x4.toNatClampNeg) - (σ 175 x1.toNatClampNeg)))), some (.int 0), some (.int 1)]) dX12_others_163 (by decide) rfl rfl ?_
                    refine q_iinc (L' := [some (.ref (g.2.1 168)), some (.int x1), some (.int x2), some (.int (x3 + 1)), some (.int (x4 + 1)), some (.int (if 0 ≤ ((σ 175 x4.toNatClampNeg) - (σ 175 x1.toNatClampNeg)) then ((σ 175 x4.toNatClampNeg) - (σ 175 x1.toNatClampNeg)) else 0 - ((σ 175 x4.toNatClampNeg) - (σ 175 x1.toNatClampNeg)))), some (.int 0), some (.int 1)]) dX12_others_164 rfl (by decide) rfl rfl ?_
                    refine q_goto (tgt := 5) dX12_others_167 (by decide) ?_
                    exact q_wk (by simp [vt_le]) h
              · have h := h.2 c20
                refine q_aload_n dX12_others_106 rfl ?_
                refine q_getR dX12_others_107 fF_RX12_9 fl_168_0 ?_
                refine q_iload dX12_others_110 rfl ?_
                refine q_iconst (v := 0) dX12_others_112 (by decide) ?_
                refine q_cSi (e := (30 + 8 * x4 + (0 : Int32))) (d' := 0) [.int x4, .int 0] [.ref (g.2.1 169)] dX12_others_113 ok_X12_of mk_RX12_61 rfl (Nat.le_of_ble_eq_true rfl) (by first | decide | omega) (fun Φ h9 => c_X12_of (σ := σ) Φ h9) ?_
                obtain ⟨hi23, h⟩ := h
                refine q_ialdX (v := (σ 169 (30 + 8 * x4 + (0 : Int32)).toNatClampNeg)) dX12_others_116 ar_169 hi23 rfl ?_
                refine q_iconst (v := 1) dX12_others_117 (by decide) ?_
                refine q_icmp_ne (tgt := 148) dX12_others_118 (by decide) (fun c24 => ?_) (fun c24 => ?_)
                · have h := h.1 c24
                  refine q_iconst (v := 0) dX12_others_148 (by decide) ?_
                  refine q_istore (L' := [some (.ref (g.2.1 168)), some (.int x1), some (.int x2), some (.int x3), some (.int x4), some (.int (if 0 ≤ ((σ 175 x4.toNatClampNeg) - (σ 175 x1.toNatClampNeg)) then ((σ 175 x4.toNatClampNeg) - (σ 175 x1.toNatClampNeg)) else 0 - ((σ 175 x4.toNatClampNeg) - (σ 175 x1.toNatClampNeg)))), some (.int 0), some (.int 0)]) dX12_others_149 (by decide) rfl rfl ?_
                  refine q_iload_n dX12_others_151 rfl ?_
                  refine q_iload dX12_others_152 rfl ?_
                  refine q_if_eq (tgt := 161) dX12_others_154 (by decide) (fun _ => ?_) (fun c => absurd (by decide) c)
                  refine q_iconst (v := 0) dX12_others_161 (by decide) ?_
                  refine q_iadd dX12_others_162 ?_
                  refine q_istore_n (L' := [some (.ref (g.2.1 168)), some (.int x1), some (.int x2), some (.int (x3 + 0)), some (.int x4), some (.int (if 0 ≤ ((σ 175 x4.toNatClampNeg) - (σ 175 x1.toNatClampNeg)) then ((σ 175 x4.toNatClampNeg) - (σ 175 x1.toNatClampNeg)) else 0 - ((σ 175 x4.toNatClampNeg) - (σ 175 x1.toNatClampNeg)))), some (.int 0), some (.int 0)]) dX12_others_163 (by decide) rfl rfl ?_
                  refine q_iinc (L' := [some (.ref (g.2.1 168)), some (.int x1), some (.int x2), some (.int (x3 + 0)), some (.int (x4 + 1)), some (.int (if 0 ≤ ((σ 175 x4.toNatClampNeg) - (σ 175 x1.toNatClampNeg)) then ((σ 175 x4.toNatClampNeg) - (σ 175 x1.toNatClampNeg)) else 0 - ((σ 175 x4.toNatClampNeg) - (σ 175 x1.toNatClampNeg)))), some (.int 0), some (.int 0)]) dX12_others_164 rfl (by decide) rfl rfl ?_
                  refine q_goto (tgt := 5) dX12_others_167 (by decide) ?_
                  exact q_wk (by simp [vt_le]) h
                · have h := h.2 c24
                  refine q_goto (tgt := 144) dX12_others_121 (by decide) ?_
                  refine q_iconst (v := 1) dX12_others_144 (by decide) ?_
                  refine q_goto (tgt := 149) dX12_others_145 (by decide) ?_
                  refine q_istore (L' := [some (.ref (g.2.1 168)), some (.int x1), some (.int x2), some (.int x3), some (.int x4), some (.int (if 0 ≤ ((σ 175 x4.toNatClampNeg) - (σ 175 x1.toNatClampNeg)) then ((σ 175 x4.toNatClampNeg) - (σ 175 x1.toNatClampNeg)) else 0 - ((σ 175 x4.toNatClampNeg) - (σ 175 x1.toNatClampNeg)))), some (.int 0), some (.int 1)]) dX12_others_149 (by decide) rfl rfl ?_
                  refine q_iload_n dX12_others_151 rfl ?_
                  refine q_iload dX12_others_152 rfl ?_
                  refine q_if_eq (tgt := 161) dX12_others_154 (by decide) (fun c => absurd c (by decide)) (fun _ => ?_)
                  refine q_iconst (v := 1) dX12_others_157 (by decide) ?_
                  refine q_goto (tgt := 162) dX12_others_158 (by decide) ?_
                  refine q_iadd dX12_others_162 ?_
                  refine q_istore_n (L' := [some (.ref (g.2.1 168)), some (.int x1), some (.int x2), some (.int (x3 + 1)), some (.int x4), some (.int (if 0 ≤ ((σ 175 x4.toNatClampNeg) - (σ 175 x1.toNatClampNeg)) then ((σ 175 x4.toNatClampNeg) - (σ 175 x1.toNatClampNeg)) else 0 - ((σ 175 x4.toNatClampNeg) - (σ 175 x1.toNatClampNeg)))), some (.int 0), some (.int 1)]) dX12_others_163 (by decide) rfl rfl ?_
                  refine q_iinc (L' := [some (.ref (g.2.1 168)), some (.int x1), some (.int x2), some (.int (x3 + 1)), some (.int (x4 + 1)), some (.int (if 0 ≤ ((σ 175 x4.toNatClampNeg) - (σ 175 x1.toNatClampNeg)) then ((σ 175 x4.toNatClampNeg) - (σ 175 x1.toNatClampNeg)) else 0 - ((σ 175 x4.toNatClampNeg) - (σ 175 x1.toNatClampNeg)))), some (.int 0), some (.int 1)]) dX12_others_164 rfl (by decide) rfl rfl ?_
                  refine q_goto (tgt := 5) dX12_others_167 (by decide) ?_
                  exact q_wk (by simp [vt_le]) h
          · have h := h.2 c18
            refine q_iconst (v := 1) dX12_others_89 (by decide) ?_
            refine q_goto (tgt := 94) dX12_others_90 (by decide) ?_
            refine q_istore (L' := [some (.ref (g.2.1 168)), some (.int x1), some (.int x2), some (.int x3), some (.int x4), some (.int (if 0 ≤ ((σ 175 x4.toNatClampNeg) - (σ 175 x1.toNatClampNeg)) then ((σ 175 x4.toNatClampNeg) - (σ 175 x1.toNatClampNeg)) else 0 - ((σ 175 x4.toNatClampNeg) - (σ 175 x1.toNatClampNeg)))), some (.int 1), none]) dX12_others_94 (by decide) rfl rfl ?_
            refine q_iload_n dX12_others_96 rfl ?_
            refine q_iconst (v := 4) dX12_others_97 (by decide) ?_
            refine q_icmp_eq (tgt := 144) dX12_others_98 (by decide) (fun c25 => ?_) (fun c25 => ?_)
            · have h := h.1 c25
              refine q_iconst (v := 1) dX12_others_144 (by decide) ?_
              refine q_goto (tgt := 149) dX12_others_145 (by decide) ?_
              refine q_istore (L' := [some (.ref (g.2.1 168)), some (.int x1), some (.int x2), some (.int x3), some (.int x4), some (.int (if 0 ≤ ((σ 175 x4.toNatClampNeg) - (σ 175 x1.toNatClampNeg)) then ((σ 175 x4.toNatClampNeg) - (σ 175 x1.toNatClampNeg)) else 0 - ((σ 175 x4.toNatClampNeg) - (σ 175 x1.toNatClampNeg)))), some (.int 1), some (.int 1)]) dX12_others_149 (by decide) rfl rfl ?_
              refine q_iload_n dX12_others_151 rfl ?_
              refine q_iload dX12_others_152 rfl ?_
              refine q_if_eq (tgt := 161) dX12_others_154 (by decide) (fun c => absurd c (by decide)) (fun _ => ?_)
              refine q_iconst (v := 1) dX12_others_157 (by decide) ?_
              refine q_goto (tgt := 162) dX12_others_158 (by decide) ?_
              refine q_iadd dX12_others_162 ?_
              refine q_istore_n (L' := [some (.ref (g.2.1 168)), some (.int x1), some (.int x2), some (.int (x3 + 1)), some (.int x4), some (.int (if 0 ≤ ((σ 175 x4.toNatClampNeg) - (σ 175 x1.toNatClampNeg)) then ((σ 175 x4.toNatClampNeg) - (σ 175 x1.toNatClampNeg)) else 0 - ((σ 175 x4.toNatClampNeg) - (σ 175 x1.toNatClampNeg)))), some (.int 1), some (.int 1)]) dX12_others_163 (by decide) rfl rfl ?_
              refine q_iinc (L' := [some (.ref (g.2.1 168)), some (.int x1), some (.int x2), some (.int (x3 + 1)), some (.int (x4 + 1)), some (.int (if 0 ≤ ((σ 175 x4.toNatClampNeg) - (σ 175 x1.toNatClampNeg)) then ((σ 175 x4.toNatClampNeg) - (σ 175 x1.toNatClampNeg)) else 0 - ((σ 175 x4.toNatClampNeg) - (σ 175 x1.toNatClampNeg)))), some (.int 1), some (.int 1)]) dX12_others_164 rfl (by decide) rfl rfl ?_
              refine q_goto (tgt := 5) dX12_others_167 (by decide) ?_
              exact q_wk (by simp [vt_le]) h
            · have h := h.2 c25
              refine q_iload_n dX12_others_101 rfl ?_
              refine q_iconst (v := 5) dX12_others_102 (by decide) ?_
              refine q_icmp_ne (tgt := 124) dX12_others_103 (by decide) (fun c26 => ?_) (fun c26 => ?_)
              · have h := h.1 c26
                refine q_iload_n dX12_others_124 rfl ?_
                refine q_bipush (v := 6) dX12_others_125 (by decide) ?_
                refine q_icmp_ne (tgt := 139) dX12_others_127 (by decide) (fun c27 => ?_) (fun c27 => ?_)
                · have h := h.1 c27
                  refine q_iload dX12_others_139 rfl ?_
                  refine q_if_eq (tgt := 148) dX12_others_141 (by decide) (fun c => absurd c (by decide)) (fun _ => ?_)
                  refine q_iconst (v := 1) dX12_others_144 (by decide) ?_
                  refine q_goto (tgt := 149) dX12_others_145 (by decide) ?_
                  refine q_istore (L' := [some (.ref (g.2.1 168)), some (.int x1), some (.int x2), some (.int x3), some (.int x4), some (.int (if 0 ≤ ((σ 175 x4.toNatClampNeg) - (σ 175 x1.toNatClampNeg)) then ((σ 175 x4.toNatClampNeg) - (σ 175 x1.toNatClampNeg)) else 0 - ((σ 175 x4.toNatClampNeg) - (σ 175 x1.toNatClampNeg)))), some (.int 1), some (.int 1)]) dX12_others_149 (by decide) rfl rfl ?_
                  refine q_iload_n dX12_others_151 rfl ?_
                  refine q_iload dX12_others_152 rfl ?_
                  refine q_if_eq (tgt := 161) dX12_others_154 (by decide) (fun c => absurd c (by decide)) (fun _ => ?_)
                  refine q_iconst (v := 1) dX12_others_157 (by decide) ?_
                  refine q_goto (tgt := 162) dX12_others_158 (by decide) ?_
                  refine q_iadd dX12_others_162 ?_
                  refine q_istore_n (L' := [some (.ref (g.2.1 168)), some (.int x1), some (.int x2), some (.int (x3 + 1)), some (.int x4), some (.int (if 0 ≤ ((σ 175 x4.toNatClampNeg) - (σ 175 x1.toNatClampNeg)) then ((σ 175 x4.toNatClampNeg) - (σ 175 x1.toNatClampNeg)) else 0 - ((σ 175 x4.toNatClampNeg) - (σ 175 x1.toNatClampNeg)))), some (.int 1), some (.int 1)]) dX12_others_163 (by decide) rfl rfl ?_
                  refine q_iinc (L' := [some (.ref (g.2.1 168)), some (.int x1), some (.int x2), some (.int (x3 + 1)), some (.int (x4 + 1)), some (.int (if 0 ≤ ((σ 175 x4.toNatClampNeg) - (σ 175 x1.toNatClampNeg)) then ((σ 175 x4.toNatClampNeg) - (σ 175 x1.toNatClampNeg)) else 0 - ((σ 175 x4.toNatClampNeg) - (σ 175 x1.toNatClampNeg)))), some (.int 1), some (.int 1)]) dX12_others_164 rfl (by decide) rfl rfl ?_
                  refine q_goto (tgt := 5) dX12_others_167 (by decide) ?_
                  exact q_wk (by simp [vt_le]) h
                · have h := h.2 c27
                  refine q_iload dX12_others_130 rfl ?_
                  refine q_iconst (v := 1) dX12_others_132 (by decide) ?_
                  refine q_icmp_ne (tgt := 148) dX12_others_133 (by decide) (fun c28 => ?_) (fun c28 => ?_)
                  · have h := h.1 c28
                    refine q_iconst (v := 0) dX12_others_148 (by decide) ?_
                    refine q_istore (L' := [some (.ref (g.2.1 168)), some (.int x1), some (.int x2), some (.int x3), some (.int x4), some (.int (if 0 ≤ ((σ 175 x4.toNatClampNeg) - (σ 175 x1.toNatClampNeg)) then ((σ 175 x4.toNatClampNeg) - (σ 175 x1.toNatClampNeg)) else 0 - ((σ 175 x4.toNatClampNeg) - (σ 175 x1.toNatClampNeg)))), some (.int 1), some (.int 0)]) dX12_others_149 (by decide) rfl rfl ?_
                    refine q_iload_n dX12_others_151 rfl ?_
                    refine q_iload dX12_others_152 rfl ?_
                    refine q_if_eq (tgt := 161) dX12_others_154 (by decide) (fun _ => ?_) (fun c => absurd (by decide) c)
                    refine q_iconst (v := 0) dX12_others_161 (by decide) ?_
                    refine q_iadd dX12_others_162 ?_
                    refine q_istore_n (L' := [some (.ref (g.2.1 168)), some (.int x1), some (.int x2), some (.int (x3 + 0)), some (.int x4), some (.int (if 0 ≤ ((σ 175 x4.toNatClampNeg) - (σ 175 x1.toNatClampNeg)) then ((σ 175 x4.toNatClampNeg) - (σ 175 x1.toNatClampNeg)) else 0 - ((σ 175 x4.toNatClampNeg) - (σ 175 x1.toNatClampNeg)))), some (.int 1), some (.int 0)]) dX12_others_163 (by decide) rfl rfl ?_
                    refine q_iinc (L' := [some (.ref (g.2.1 168)), some (.int x1), some (.int x2), some (.int (x3 + 0)), some (.int (x4 + 1)), some (.int (if 0 ≤ ((σ 175 x4.toNatClampNeg) - (σ 175 x1.toNatClampNeg)) then ((σ 175 x4.toNatClampNeg) - (σ 175 x1.toNatClampNeg)) else 0 - ((σ 175 x4.toNatClampNeg) - (σ 175 x1.toNatClampNeg)))), some (.int 1), some (.int 0)]) dX12_others_164 rfl (by decide) rfl rfl ?_
                    refine q_goto (tgt := 5) dX12_others_167 (by decide) ?_
                    exact q_wk (by simp [vt_le]) h
                  · have h := h.2 c28
                    refine q_goto (tgt := 144) dX12_others_136 (by decide) ?_
                    refine q_iconst (v := 1) dX12_others_144 (by decide) ?_
                    refine q_goto (tgt := 149) dX12_others_145 (by decide) ?_
                    refine q_istore (L' := [some (.ref (g.2.1 168)), some (.int x1), some (.int x2), some (.int x3), some (.int x4), some (.int (if 0 ≤ ((σ 175 x4.toNatClampNeg) - (σ 175 x1.toNatClampNeg)) then ((σ 175 x4.toNatClampNeg) - (σ 175 x1.toNatClampNeg)) else 0 - ((σ 175 x4.toNatClampNeg) - (σ 175 x1.toNatClampNeg)))), some (.int 1), some (.int 1)]) dX12_others_149 (by decide) rfl rfl ?_
                    refine q_iload_n dX12_others_151 rfl ?_
                    refine q_iload dX12_others_152 rfl ?_
                    refine q_if_eq (tgt := 161) dX12_others_154 (by decide) (fun c => absurd c (by decide)) (fun _ => ?_)
                    refine q_iconst (v := 1) dX12_others_157 (by decide) ?_
                    refine q_goto (tgt := 162) dX12_others_158 (by decide) ?_
                    refine q_iadd dX12_others_162 ?_
                    refine q_istore_n (L' := [some (.ref (g.2.1 168)), some (.int x1), some (.int x2), some (.int (x3 + 1)), some (.int x4), some (.int (if 0 ≤ ((σ 175 x4.toNatClampNeg) - (σ 175 x1.toNatClampNeg)) then ((σ 175 x4.toNatClampNeg) - (σ 175 x1.toNatClampNeg)) else 0 - ((σ 175 x4.toNatClampNeg) - (σ 175 x1.toNatClampNeg)))), some (.int 1), some (.int 1)]) dX12_others_163 (by decide) rfl rfl ?_
                    refine q_iinc (L' := [some (.ref (g.2.1 168)), some (.int x1), some (.int x2), some (.int (x3 + 1)), some (.int (x4 + 1)), some (.int (if 0 ≤ ((σ 175 x4.toNatClampNeg) - (σ 175 x1.toNatClampNeg)) then ((σ 175 x4.toNatClampNeg) - (σ 175 x1.toNatClampNeg)) else 0 - ((σ 175 x4.toNatClampNeg) - (σ 175 x1.toNatClampNeg)))), some (.int 1), some (.int 1)]) dX12_others_164 rfl (by decide) rfl rfl ?_
                    refine q_goto (tgt := 5) dX12_others_167 (by decide) ?_
                    exact q_wk (by simp [vt_le]) h
              · have h := h.2 c26
                refine q_aload_n dX12_others_106 rfl ?_
                refine q_getR dX12_others_107 fF_RX12_9 fl_168_0 ?_
                refine q_iload dX12_others_110 rfl ?_
                refine q_iconst (v := 0) dX12_others_112 (by decide) ?_
                refine q_cSi (e := (30 + 8 * x4 + (0 : Int32))) (d' := 0) [.int x4, .int 0] [.ref (g.2.1 169)] dX12_others_113 ok_X12_of mk_RX12_61 rfl (Nat.le_of_ble_eq_true rfl) (by first | decide | omega) (fun Φ h9 => c_X12_of (σ := σ) Φ h9) ?_
                obtain ⟨hi29, h⟩ := h
                refine q_ialdX (v := (σ 169 (30 + 8 * x4 + (0 : Int32)).toNatClampNeg)) dX12_others_116 ar_169 hi29 rfl ?_
                refine q_iconst (v := 1) dX12_others_117 (by decide) ?_
                refine q_icmp_ne (tgt := 148) dX12_others_118 (by decide) (fun c30 => ?_) (fun c30 => ?_)
                · have h := h.1 c30
                  refine q_iconst (v := 0) dX12_others_148 (by decide) ?_
                  refine q_istore (L' := [some (.ref (g.2.1 168)), some (.int x1), some (.int x2), some (.int x3), some (.int x4), some (.int (if 0 ≤ ((σ 175 x4.toNatClampNeg) - (σ 175 x1.toNatClampNeg)) then ((σ 175 x4.toNatClampNeg) - (σ 175 x1.toNatClampNeg)) else 0 - ((σ 175 x4.toNatClampNeg) - (σ 175 x1.toNatClampNeg)))), some (.int 1), some (.int 0)]) dX12_others_149 (by decide) rfl rfl ?_
                  refine q_iload_n dX12_others_151 rfl ?_
                  refine q_iload dX12_others_152 rfl ?_
                  refine q_if_eq (tgt := 161) dX12_others_154 (by decide) (fun _ => ?_) (fun c => absurd (by decide) c)
                  refine q_iconst (v := 0) dX12_others_161 (by decide) ?_
                  refine q_iadd dX12_others_162 ?_
                  refine q_istore_n (L' := [some (.ref (g.2.1 168)), some (.int x1), some (.int x2), some (.int (x3 + 0)), some (.int x4), some (.int (if 0 ≤ ((σ 175 x4.toNatClampNeg) - (σ 175 x1.toNatClampNeg)) then ((σ 175 x4.toNatClampNeg) - (σ 175 x1.toNatClampNeg)) else 0 - ((σ 175 x4.toNatClampNeg) - (σ 175 x1.toNatClampNeg)))), some (.int 1), some (.int 0)]) dX12_others_163 (by decide) rfl rfl ?_
                  refine q_iinc (L' := [some (.ref (g.2.1 168)), some (.int x1), some (.int x2), some (.int (x3 + 0)), some (.int (x4 + 1)), some (.int (if 0 ≤ ((σ 175 x4.toNatClampNeg) - (σ 175 x1.toNatClampNeg)) then ((σ 175 x4.toNatClampNeg) - (σ 175 x1.toNatClampNeg)) else 0 - ((σ 175 x4.toNatClampNeg) - (σ 175 x1.toNatClampNeg)))), some (.int 1), some (.int 0)]) dX12_others_164 rfl (by decide) rfl rfl ?_
                  refine q_goto (tgt := 5) dX12_others_167 (by decide) ?_
                  exact q_wk (by simp [vt_le]) h
                · have h := h.2 c30
                  refine q_goto (tgt := 144) dX12_others_121 (by decide) ?_
                  refine q_iconst (v := 1) dX12_others_144 (by decide) ?_
                  refine q_goto (tgt := 149) dX12_others_145 (by decide) ?_
                  refine q_istore (L' := [some (.ref (g.2.1 168)), some (.int x1), some (.int x2), some (.int x3), some (.int x4), some (.int (if 0 ≤ ((σ 175 x4.toNatClampNeg) - (σ 175 x1.toNatClampNeg)) then ((σ 175 x4.toNatClampNeg) - (σ 175 x1.toNatClampNeg)) else 0 - ((σ 175 x4.toNatClampNeg) - (σ 175 x1.toNatClampNeg)))), some (.int 1), some (.int 1)]) dX12_others_149 (by decide) rfl rfl ?_
                  refine q_iload_n dX12_others_151 rfl ?_
                  refine q_iload dX12_others_152 rfl ?_
                  refine q_if_eq (tgt := 161) dX12_others_154 (by decide) (fun c => absurd c (by decide)) (fun _ => ?_)
                  refine q_iconst (v := 1) dX12_others_157 (by decide) ?_
                  refine q_goto (tgt := 162) dX12_others_158 (by decide) ?_
                  refine q_iadd dX12_others_162 ?_
                  refine q_istore_n (L' := [some (.ref (g.2.1 168)), some (.int x1), some (.int x2), some (.int (x3 + 1)), some (.int x4), some (.int (if 0 ≤ ((σ 175 x4.toNatClampNeg) - (σ 175 x1.toNatClampNeg)) then ((σ 175 x4.toNatClampNeg) - (σ 175 x1.toNatClampNeg)) else 0 - ((σ 175 x4.toNatClampNeg) - (σ 175 x1.toNatClampNeg)))), some (.int 1), some (.int 1)]) dX12_others_163 (by decide) rfl rfl ?_
                  refine q_iinc (L' := [some (.ref (g.2.1 168)), some (.int x1), some (.int x2), some (.int (x3 + 1)), some (.int (x4 + 1)), some (.int (if 0 ≤ ((σ 175 x4.toNatClampNeg) - (σ 175 x1.toNatClampNeg)) then ((σ 175 x4.toNatClampNeg) - (σ 175 x1.toNatClampNeg)) else 0 - ((σ 175 x4.toNatClampNeg) - (σ 175 x1.toNatClampNeg)))), some (.int 1), some (.int 1)]) dX12_others_164 rfl (by decide) rfl rfl ?_
                  refine q_goto (tgt := 5) dX12_others_167 (by decide) ?_
                  exact q_wk (by simp [vt_le]) h
      · have h := h.2 c6
        refine q_goto (tgt := 164) dX12_others_28 (by decide) ?_
        refine q_iinc (L' := [some (.ref (g.2.1 168)), some (.int x1), some (.int x2), some (.int x3), some (.int (x4 + 1)), none, none, none]) dX12_others_164 rfl (by decide) rfl rfl ?_
        refine q_goto (tgt := 5) dX12_others_167 (by decide) ?_
        exact h

theorem s_X12_stands_0 (g : vt_GT) (σ : vt_Sg) (P : Option Value → vt_Sg → Prop) (p1 : Int32) (p2 : Int32) (p3 : Int32)
  (h : ((¬ p1 < 0 ∧ ¬ (σ 169 2) - 1 < p1) → ((¬ p2 < 0 ∧ ¬ (σ 169 0) < p2) → ((¬ p3 < (0 : Int32) ∧ ¬ (7 : Int32) < p3) → vt_Mv g 1 D_X12_findStands [.ref (g.2.1 168), .int p2] σ (fun σ4 => vp_in p1 12 ∧ ((0 ≤ (σ4 175 p1.toNatClampNeg) → (p3 = 0 → P (some (.int (σ4 175 p1.toNatClampNeg))) σ4) ∧ (¬ p3 = 0 → (p3 = 1 → vt_Mi g 2 D_X12_comers [.ref (g.2.1 168), .int p1] σ4 (fun r14 σ13 => P (some (.int r14)) σ13)) ∧ (¬ p3 = 1 → (p3 = 2 → vt_Mi g 2 D_X12_passers [.ref (g.2.1 168), .int (σ4 175 p1.toNatClampNeg)] σ4 (fun r12 σ11 => P (some (.int r12)) σ11)) ∧ (¬ p3 = 2 → (p3 = 3 → vt_Mi g 3 D_X12_foretold [.ref (g.2.1 168), .int p1] σ4 (fun r10 σ9 => P (some (.int r10)) σ9)) ∧ (¬ p3 = 3 → vt_Mi g 1 D_X12_others [.ref (g.2.1 168), .int p1, .int p3] σ4 (fun r8 σ7 => P (some (.int r8)) σ7)))))) ∧ (¬ 0 ≤ (σ4 175 p1.toNatClampNeg) → (¬ p3 = 0 → P (some (.int (-1000000002))) σ4) ∧ (p3 = 0 → P (some (.int (-1000000005))) σ4))))) ∧ (¬ (¬ p3 < (0 : Int32) ∧ ¬ (7 : Int32) < p3) → P (some (.int (-1000000001))) σ)) ∧ (¬ (¬ p2 < 0 ∧ ¬ (σ 169 0) < p2) → P (some (.int (-1000000001))) σ)) ∧ (¬ (¬ p1 < 0 ∧ ¬ (σ 169 2) - 1 < p1) → P (some (.int (-1000000001))) σ)) :
  TT g (vt_R 4) 0 0 D_X12_stands none 0 [some (.ref (g.2.1 168)), some (.int p1), some (.int p2), some (.int p3)] [] σ P := by
  refine q_aload_n dX12_stands_0 rfl ?_
  refine q_iload_n dX12_stands_1 rfl ?_
  refine q_cVb (C := ¬ p1 < 0 ∧ ¬ (σ 169 2) - 1 < p1) (d' := 1) [.int p1] [] dX12_stands_2 ok_X12_isShop mk_RX12_65 rc_168 rfl (Nat.le_of_ble_eq_true rfl) (by first | decide | omega) (fun Φ h9 => c_X12_isShop (σ := σ) Φ h9) (fun c1 => ?_) (fun c1 => ?_)
  · have h := h.1 c1
    refine q_if_eq (tgt := 26) dX12_stands_5 (by decide) (fun c => absurd c (by decide)) (fun _ => ?_)
    refine q_aload_n dX12_stands_8 rfl ?_
    refine q_iload_n dX12_stands_9 rfl ?_
    refine q_cVb (C := ¬ p2 < 0 ∧ ¬ (σ 169 0) < p2) (d' := 1) [.int p2] [] dX12_stands_10 ok_X12_isPast mk_RX12_110 rc_168 rfl (Nat.le_of_ble_eq_true rfl) (by first | decide | omega) (fun Φ h9 => c_X12_isPast (σ := σ) Φ h9) (fun c2 => ?_) (fun c2 => ?_)
    · have h := h.1 c2
      refine q_if_eq (tgt := 26) dX12_stands_13 (by decide) (fun c => absurd c (by decide)) (fun _ => ?_)
      refine q_iload_n dX12_stands_16 rfl ?_
      refine q_iconst (v := 0) dX12_stands_17 (by decide) ?_
      refine q_bipush (v := 7) dX12_stands_18 (by decide) ?_
      refine q_cSb (C := ¬ p3 < (0 : Int32) ∧ ¬ (7 : Int32) < p3) (d' := 0) [.int p3, .int 0, .int 7] [] dX12_stands_20 ok_X12_within mk_RX12_49 rfl (Nat.le_of_ble_eq_true rfl) (by first | decide | omega) (fun Φ h9 => c_X12_within (σ := σ) Φ h9) (fun c3 => ?_) (fun c3 => ?_)
      · have h := h.1 c3
        refine q_if_ne (tgt := 29) dX12_stands_23 (by decide) (fun _ => ?_) (fun c => absurd c (by decide))
        refine q_aload_n dX12_stands_29 rfl ?_
        refine q_iload_n dX12_stands_30 rfl ?_
        refine q_cV (d' := 1) [.int p2] [] dX12_stands_31 ok_X12_findStands mk_RX12_72 rc_168 rfl (Nat.le_of_ble_eq_true rfl) (by first | decide | omega) h (fun v σ4 h => ?_)
        obtain ⟨rfl, h⟩ := h
        refine q_aload_n dX12_stands_34 rfl ?_
        refine q_getR dX12_stands_35 fF_RX12_28 fl_168_9 ?_
        refine q_iload_n dX12_stands_38 rfl ?_
        obtain ⟨hi5, h⟩ := h
        refine q_ialdX (v := (σ4 175 p1.toNatClampNeg)) dX12_stands_39 ar_175 hi5 rfl ?_
        refine q_if_ge (tgt := 55) dX12_stands_40 (by decide) (fun c6 => ?_) (fun c6 => ?_)
        · have h := h.1 c6
          refine q_iload_n dX12_stands_55 rfl ?_
          by_cases n56_0 : p3 = 0
          · have h := h.1 n56_0
            refine q_tabE (kk := 0) n56_0 (tgt := 88) (off := 32) dX12_stands_56 (by decide) (by decide) rfl (by decide) ?_
            refine q_aload_n dX12_stands_88 rfl ?_
            refine q_getR dX12_stands_89 fF_RX12_28 fl_168_9 ?_
            refine q_iload_n dX12_stands_92 rfl ?_
            refine q_ialdX (v := (σ4 175 p1.toNatClampNeg)) dX12_stands_93 ar_175 hi5 rfl ?_
            exact q_iret .int rfl rfl dX12_stands_94 h
          · have h := h.2 n56_0
            by_cases n56_1 : p3 = 1
            · have h := h.1 n56_1
              refine q_tabE (kk := 1) n56_1 (tgt := 95) (off := 39) dX12_stands_56 (by decide) (by decide) rfl (by decide) ?_
              refine q_aload_n dX12_stands_95 rfl ?_
              refine q_iload_n dX12_stands_96 rfl ?_
              refine q_cV (d' := 2) [.int p1] [] dX12_stands_97 ok_X12_comers mk_RX12_101 rc_168 rfl (Nat.le_of_ble_eq_true rfl) (by first | decide | omega) h (fun v σ13 h => ?_)
              obtain ⟨r14, rfl, h⟩ := h
              exact q_iret .int rfl rfl dX12_stands_100 h
            · have h := h.2 n56_1
              by_cases n56_2 : p3 = 2
              · have h := h.1 n56_2
                refine q_tabE (kk := 2) n56_2 (tgt := 101) (off := 45) dX12_stands_56 (by decide) (by decide) rfl (by decide) ?_
                refine q_aload_n dX12_stands_101 rfl ?_
                refine q_aload_n dX12_stands_102 rfl ?_
                refine q_getR dX12_stands_103 fF_RX12_28 fl_168_9 ?_
                refine q_iload_n dX12_stands_106 rfl ?_
                refine q_ialdX (v := (σ4 175 p1.toNatClampNeg)) dX12_stands_107 ar_175 hi5 rfl ?_
                refine q_cV (d' := 2) [.int (σ4 175 p1.toNatClampNeg)] [] dX12_stands_108 ok_X12_passers mk_RX12_104 rc_168 rfl (Nat.le_of_ble_eq_true rfl) (by first | decide | omega) h (fun v σ11 h => ?_)
                obtain ⟨r12, rfl, h⟩ := h
                exact q_iret .int rfl rfl dX12_stands_111 h
              · have h := h.2 n56_2
                by_cases n56_3 : p3 = 3
                · have h := h.1 n56_3
                  refine q_tabE (kk := 3) n56_3 (tgt := 112) (off := 56) dX12_stands_56 (by decide) (by decide) rfl (by decide) ?_
                  refine q_aload_n dX12_stands_112 rfl ?_
                  refine q_iload_n dX12_stands_113 rfl ?_
                  refine q_cV (d' := 3) [.int p1] [] dX12_stands_114 ok_X12_foretold mk_RX12_113 rc_168 rfl (Nat.le_of_ble_eq_true rfl) (by first | decide | omega) h (fun v σ9 h => ?_)
                  obtain ⟨r10, rfl, h⟩ := h
                  exact q_iret .int rfl rfl dX12_stands_117 h
                · have h := h.2 n56_3
                  refine q_tabOut (tgt := 118) dX12_stands_56 (by have z0 := lv_neT (a := 0) n56_0 (by decide); have z1 := lv_neT (a := 1) n56_1 (by decide); have z2 := lv_neT (a := 2) n56_2 (by decide); have z3 := lv_neT (a := 3) n56_3 (by decide); omega) (by decide) ?_
                  refine q_aload_n dX12_stands_118 rfl ?_
                  refine q_iload_n dX12_stands_119 rfl ?_
                  refine q_iload_n dX12_stands_120 rfl ?_
                  refine q_cV (d' := 1) [.int p1, .int p3] [] dX12_stands_121 ok_X12_others mk_RX12_116 rc_168 rfl (Nat.le_of_ble_eq_true rfl) (by first | decide | omega) h (fun v σ7 h => ?_)
                  obtain ⟨r8, rfl, h⟩ := h
                  exact q_iret .int rfl rfl dX12_stands_124 h
        · have h := h.2 c6
          refine q_iload_n dX12_stands_43 rfl ?_
          refine q_if_ne (tgt := 52) dX12_stands_44 (by decide) (fun c15 => ?_) (fun c15 => ?_)
          · have h := h.1 c15
            refine q_ldc dX12_stands_52 ct_RX12_80 ?_
            exact q_iret .int rfl rfl dX12_stands_54 h
          · have h := h.2 c15
            refine q_ldc dX12_stands_47 ct_RX12_71 ?_
            refine q_goto (tgt := 54) dX12_stands_49 (by decide) ?_
            exact q_iret .int rfl rfl dX12_stands_54 h
      · have h := h.2 c3
        refine q_if_ne (tgt := 29) dX12_stands_23 (by decide) (fun c => absurd rfl c) (fun _ => ?_)
        refine q_ldc dX12_stands_26 ct_RX12_57 ?_
        exact q_iret .int rfl rfl dX12_stands_28 h
    · have h := h.2 c2
      refine q_if_eq (tgt := 26) dX12_stands_13 (by decide) (fun _ => ?_) (fun c => absurd (by decide) c)
      refine q_ldc dX12_stands_26 ct_RX12_57 ?_
      exact q_iret .int rfl rfl dX12_stands_28 h
  · have h := h.2 c1
    refine q_if_eq (tgt := 26) dX12_stands_5 (by decide) (fun _ => ?_) (fun c => absurd (by decide) c)
    refine q_ldc dX12_stands_26 ct_RX12_57 ?_
    exact q_iret .int rfl rfl dX12_stands_28 h

theorem s_X12_past_0 (g : vt_GT) (σ : vt_Sg) (P : Option Value → vt_Sg → Prop) (p1 : Int32) (p2 : Int32)
  (h : ((¬ p1 < 0 ∧ ¬ 11 < p1) → ((¬ p2 < 0 ∧ ¬ (σ 169 0) < p2) → vt_Mv g 1 D_X12_findStands [.ref (g.2.1 168), .int p2] σ (fun σ3 => vt_Mi g 2 D_X12_passers [.ref (g.2.1 168), .int p1] σ3 (fun r5 σ4 => P (some (.int r5)) σ4))) ∧ (¬ (¬ p2 < 0 ∧ ¬ (σ 169 0) < p2) → P (some (.int (-1000000001))) σ)) ∧ (¬ (¬ p1 < 0 ∧ ¬ 11 < p1) → P (some (.int (-1000000001))) σ)) :
  TT g (vt_R 3) 0 0 D_X12_past none 0 [some (.ref (g.2.1 168)), some (.int p1), some (.int p2)] [] σ P := by
  refine q_iload_n dX12_past_0 rfl ?_
  refine q_cSb (C := ¬ p1 < 0 ∧ ¬ 11 < p1) (d' := 1) [.int p1] [] dX12_past_1 ok_X12_isPlace mk_RX12_53 rfl (Nat.le_of_ble_eq_true rfl) (by first | decide | omega) (fun Φ h9 => c_X12_isPlace (σ := σ) Φ h9) (fun c1 => ?_) (fun c1 => ?_)
  · have h := h.1 c1
    refine q_if_eq (tgt := 15) dX12_past_4 (by decide) (fun c => absurd c (by decide)) (fun _ => ?_)
    refine q_aload_n dX12_past_7 rfl ?_
    refine q_iload_n dX12_past_8 rfl ?_
    refine q_cVb (C := ¬ p2 < 0 ∧ ¬ (σ 169 0) < p2) (d' := 1) [.int p2] [] dX12_past_9 ok_X12_isPast mk_RX12_110 rc_168 rfl (Nat.le_of_ble_eq_true rfl) (by first | decide | omega) (fun Φ h9 => c_X12_isPast (σ := σ) Φ h9) (fun c2 => ?_) (fun c2 => ?_)
    · have h := h.1 c2
      refine q_if_ne (tgt := 18) dX12_past_12 (by decide) (fun _ => ?_) (fun c => absurd c (by decide))
      refine q_aload_n dX12_past_18 rfl ?_
      refine q_iload_n dX12_past_19 rfl ?_
      refine q_cV (d' := 1) [.int p2] [] dX12_past_20 ok_X12_findStands mk_RX12_72 rc_168 rfl (Nat.le_of_ble_eq_true rfl) (by first | decide | omega) h (fun v σ3 h => ?_)
      obtain ⟨rfl, h⟩ := h
      refine q_aload_n dX12_past_23 rfl ?_
      refine q_iload_n dX12_past_24 rfl ?_
      refine q_cV (d' := 2) [.int p1] [] dX12_past_25 ok_X12_passers mk_RX12_104 rc_168 rfl (Nat.le_of_ble_eq_true rfl) (by first | decide | omega) h (fun v σ4 h => ?_)
      obtain ⟨r5, rfl, h⟩ := h
      exact q_iret .int rfl rfl dX12_past_28 h
    · have h := h.2 c2
      refine q_if_ne (tgt := 18) dX12_past_12 (by decide) (fun c => absurd rfl c) (fun _ => ?_)
      refine q_ldc dX12_past_15 ct_RX12_57 ?_
      exact q_iret .int rfl rfl dX12_past_17 h
  · have h := h.2 c1
    refine q_if_eq (tgt := 15) dX12_past_4 (by decide) (fun _ => ?_) (fun c => absurd (by decide) c)
    refine q_ldc dX12_past_15 ct_RX12_57 ?_
    exact q_iret .int rfl rfl dX12_past_17 h

theorem s_X12_take_0 (g : vt_GT) (σ : vt_Sg) (P : Option Value → vt_Sg → Prop) (p1 : Int32) (p2 : Int32) (p3 : Int32)
  (h : ((¬ p1 < 0 ∧ ¬ (σ 169 2) - 1 < p1) → ((¬ p2 < 0 ∧ ¬ (σ 169 0) < p2) → ((¬ p3 < (-99999 : Int32) ∧ ¬ (99999 : Int32) < p3) → (¬ (σ 169 4) = 100 → vp_in (340 + (2 * (σ 169 4))) 2220 ∧ (vp_in ((340 + (2 * (σ 169 4))) + 1) 2220 ∧ (P (some (.int (σ 169 4))) (su (su (su σ 169 (upd (σ 169) ((340 + (2 * (σ 169 4))).toNatClampNeg) p3)) 169 (upd (upd (σ 169) ((340 + (2 * (σ 169 4))).toNatClampNeg) p3) (((340 + (2 * (σ 169 4))) + 1).toNatClampNeg) ((p1 + (12 * p2)) + (1452 * ((upd (σ 169) ((340 + (2 * (σ 169 4))).toNatClampNeg) p3) 0))))) 169 (upd (upd (upd (σ 169) ((340 + (2 * (σ 169 4))).toNatClampNeg) p3) (((340 + (2 * (σ 169 4))) + 1).toNatClampNeg) ((p1 + (12 * p2)) + (1452 * ((upd (σ 169) ((340 + (2 * (σ 169 4))).toNatClampNeg) p3) 0)))) 4 (((upd (upd (σ 169) ((340 + (2 * (σ 169 4))).toNatClampNeg) p3) (((340 + (2 * (σ 169 4))) + 1).toNatClampNeg) ((p1 + (12 * p2)) + (1452 * ((upd (σ 169) ((340 + (2 * (σ 169 4))).toNatClampNeg) p3) 0)))) 4) + 1)))))) ∧ ((σ 169 4) = 100 → P (some (.int (-1000000003))) σ)) ∧ (¬ (¬ p3 < (-99999 : Int32) ∧ ¬ (99999 : Int32) < p3) → P (some (.int (-1000000001))) σ)) ∧ (¬ (¬ p2 < 0 ∧ ¬ (σ 169 0) < p2) → P (some (.int (-1000000001))) σ)) ∧ (¬ (¬ p1 < 0 ∧ ¬ (σ 169 2) - 1 < p1) → P (some (.int (-1000000001))) σ)) :
  TT g (vt_R 2) 0 0 D_X12_take none 0 [some (.ref (g.2.1 168)), some (.int p1), some (.int p2), some (.int p3), none] [] σ P := by
  refine q_aload_n dX12_take_0 rfl ?_
  refine q_iload_n dX12_take_1 rfl ?_
  refine q_cVb (C := ¬ p1 < 0 ∧ ¬ (σ 169 2) - 1 < p1) (d' := 1) [.int p1] [] dX12_take_2 ok_X12_isShop mk_RX12_65 rc_168 rfl (Nat.le_of_ble_eq_true rfl) (by first | decide | omega) (fun Φ h9 => c_X12_isShop (σ := σ) Φ h9) (fun c1 => ?_) (fun c1 => ?_)
  · have h := h.1 c1
    refine q_if_eq (tgt := 27) dX12_take_5 (by decide) (fun c => absurd c (by decide)) (fun _ => ?_)
    refine q_aload_n dX12_take_8 rfl ?_
    refine q_iload_n dX12_take_9 rfl ?_
    refine q_cVb (C := ¬ p2 < 0 ∧ ¬ (σ 169 0) < p2) (d' := 1) [.int p2] [] dX12_take_10 ok_X12_isPast mk_RX12_110 rc_168 rfl (Nat.le_of_ble_eq_true rfl) (by first | decide | omega) (fun Φ h9 => c_X12_isPast (σ := σ) Φ h9) (fun c2 => ?_) (fun c2 => ?_)
    · have h := h.1 c2
      refine q_if_eq (tgt := 27) dX12_take_13 (by decide) (fun c => absurd c (by decide)) (fun _ => ?_)
      refine q_iload_n dX12_take_16 rfl ?_
      refine q_ldc dX12_take_17 ct_RX12_119 ?_
      refine q_ldc dX12_take_19 ct_RX12_60 ?_
      refine q_cSb (C := ¬ p3 < (-99999 : Int32) ∧ ¬ (99999 : Int32) < p3) (d' := 0) [.int p3, .int (-99999), .int 99999] [] dX12_take_21 ok_X12_within mk_RX12_49 rfl (Nat.le_of_ble_eq_true rfl) (by first | decide | omega) (fun Φ h9 => c_X12_within (σ := σ) Φ h9) (fun c3 => ?_) (fun c3 => ?_)
      · have h := h.1 c3
        refine q_if_ne (tgt := 30) dX12_take_24 (by decide) (fun _ => ?_) (fun c => absurd c (by decide))
        refine q_aload_n dX12_take_30 rfl ?_
        refine q_getR dX12_take_31 fF_RX12_9 fl_168_0 ?_
        refine q_iconst (v := 4) dX12_take_34 (by decide) ?_
        refine q_ialdX (v := (σ 169 4)) dX12_take_35 ar_169 (vt_inl rfl) rfl ?_
        refine q_istore (L' := [some (.ref (g.2.1 168)), some (.int p1), some (.int p2), some (.int p3), some (.int (σ 169 4))]) dX12_take_36 (by decide) rfl rfl ?_
        refine q_iload dX12_take_38 rfl ?_
        refine q_bipush (v := 100) dX12_take_40 (by decide) ?_
        refine q_icmp_ne (tgt := 48) dX12_take_42 (by decide) (fun c4 => ?_) (fun c4 => ?_)
        · have h := h.1 c4
          refine q_aload_n dX12_take_48 rfl ?_
          refine q_getR dX12_take_49 fF_RX12_9 fl_168_0 ?_
          refine q_sipush (v := 340) dX12_take_52 (by decide) ?_
          refine q_iconst (v := 2) dX12_take_55 (by decide) ?_
          refine q_iload dX12_take_56 rfl ?_
          refine q_imul dX12_take_58 ?_
          refine q_iadd dX12_take_59 ?_
          refine q_iload_n dX12_take_60 rfl ?_
          obtain ⟨hi5, h⟩ := h
          refine q_iastX (F := upd (σ 169) ((340 + (2 * (σ 169 4))).toNatClampNeg) p3) dX12_take_61 ar_169 hi5 rfl ?_
          refine q_aload_n dX12_take_62 rfl ?_
          refine q_getR dX12_take_63 fF_RX12_9 fl_168_0 ?_
          refine q_sipush (v := 340) dX12_take_66 (by decide) ?_
          refine q_iconst (v := 2) dX12_take_69 (by decide) ?_
          refine q_iload dX12_take_70 rfl ?_
          refine q_imul dX12_take_72 ?_
          refine q_iadd dX12_take_73 ?_
          refine q_iconst (v := 1) dX12_take_74 (by decide) ?_
          refine q_iadd dX12_take_75 ?_
          refine q_iload_n dX12_take_76 rfl ?_
          refine q_bipush (v := 12) dX12_take_77 (by decide) ?_
          refine q_iload_n dX12_take_79 rfl ?_
          refine q_imul dX12_take_80 ?_
          refine q_iadd dX12_take_81 ?_
          refine q_sipush (v := 1452) dX12_take_82 (by decide) ?_
          refine q_aload_n dX12_take_85 rfl ?_
          refine q_getR dX12_take_86 fF_RX12_9 fl_168_0 ?_
          refine q_iconst (v := 0) dX12_take_89 (by decide) ?_
          refine q_ialdX (v := ((upd (σ 169) ((340 + (2 * (σ 169 4))).toNatClampNeg) p3) 0)) dX12_take_90 ar_169 (vt_inl rfl) rfl ?_
          refine q_imul dX12_take_91 ?_
          refine q_iadd dX12_take_92 ?_
          obtain ⟨hi6, h⟩ := h
          refine q_iastX (F := upd (upd (σ 169) ((340 + (2 * (σ 169 4))).toNatClampNeg) p3) (((340 + (2 * (σ 169 4))) + 1).toNatClampNeg) ((p1 + (12 * p2)) + (1452 * ((upd (σ 169) ((340 + (2 * (σ 169 4))).toNatClampNeg) p3) 0)))) dX12_take_93 ar_169 hi6 rfl ?_
          refine q_aload_n dX12_take_94 rfl ?_
          refine q_getR dX12_take_95 fF_RX12_9 fl_168_0 ?_
          refine q_iconst (v := 4) dX12_take_98 (by decide) ?_
          refine q_dup2 dX12_take_99 rfl rfl ?_
          refine q_ialdX (v := ((upd (upd (σ 169) ((340 + (2 * (σ 169 4))).toNatClampNeg) p3) (((340 + (2 * (σ 169 4))) + 1).toNatClampNeg) ((p1 + (12 * p2)) + (1452 * ((upd (σ 169) ((340 + (2 * (σ 169 4))).toNatClampNeg) p3) 0)))) 4)) dX12_take_100 ar_169 (vt_inl rfl) rfl ?_
          refine q_iconst (v := 1) dX12_take_101 (by decide) ?_
          refine q_iadd dX12_take_102 ?_
          refine q_iastX (F := upd (upd (upd (σ 169) ((340 + (2 * (σ 169 4))).toNatClampNeg) p3) (((340 + (2 * (σ 169 4))) + 1).toNatClampNeg) ((p1 + (12 * p2)) + (1452 * ((upd (σ 169) ((340 + (2 * (σ 169 4))).toNatClampNeg) p3) 0)))) 4 (((upd (upd (σ 169) ((340 + (2 * (σ 169 4))).toNatClampNeg) p3) (((340 + (2 * (σ 169 4))) + 1).toNatClampNeg) ((p1 + (12 * p2)) + (1452 * ((upd (σ 169) ((340 + (2 * (σ 169 4))).toNatClampNeg) p3) 0)))) 4) + 1)) dX12_take_103 ar_169 (vt_inl rfl) rfl ?_
          refine q_iload dX12_take_104 rfl ?_
          exact q_iret .int rfl rfl dX12_take_106 h
        · have h := h.2 c4
          refine q_ldc dX12_take_45 ct_RX12_59 ?_
          exact q_iret .int rfl rfl dX12_take_47 h
      · have h := h.2 c3
        refine q_if_ne (tgt := 30) dX12_take_24 (by decide) (fun c => absurd rfl c) (fun _ => ?_)
        refine q_ldc dX12_take_27 ct_RX12_57 ?_
        exact q_iret .int rfl rfl dX12_take_29 h
    · have h := h.2 c2
      refine q_if_eq (tgt := 27) dX12_take_13 (by decide) (fun _ => ?_) (fun c => absurd (by decide) c)
      refine q_ldc dX12_take_27 ct_RX12_57 ?_
      exact q_iret .int rfl rfl dX12_take_29 h
  · have h := h.2 c1
    refine q_if_eq (tgt := 27) dX12_take_5 (by decide) (fun _ => ?_) (fun c => absurd (by decide) c)
    refine q_ldc dX12_take_27 ct_RX12_57 ?_
    exact q_iret .int rfl rfl dX12_take_29 h

theorem s_X12_withdraw_0 (g : vt_GT) (σ : vt_Sg) (P : Option Value → vt_Sg → Prop) (p1 : Int32)
  (h : ((¬ p1 < (0 : Int32) ∧ ¬ ((σ 169 4) - 1) < p1) → vp_in (340 + 2 * p1 + 1) 2220 ∧ ((((σ 169 (340 + 2 * p1 + 1).toNatClampNeg) / 175692 - 1) < 0 → vp_in ((340 + (2 * p1)) + 1) 2220 ∧ (P (some (.int 1)) (su σ 169 (upd (σ 169) (((340 + (2 * p1)) + 1).toNatClampNeg) ((σ 169 ((340 + (2 * p1)) + 1).toNatClampNeg) + (175692 * ((σ 169 0) + 1))))))) ∧ (¬ ((σ 169 (340 + 2 * p1 + 1).toNatClampNeg) / 175692 - 1) < 0 → P (some (.int (-1000000002))) σ))) ∧ (¬ (¬ p1 < (0 : Int32) ∧ ¬ ((σ 169 4) - 1) < p1) → P (some (.int (-1000000001))) σ)) :
  TT g (vt_R 1) 0 0 D_X12_withdraw none 0 [some (.ref (g.2.1 168)), some (.int p1)] [] σ P := by
  refine q_iload_n dX12_withdraw_0 rfl ?_
  refine q_iconst (v := 0) dX12_withdraw_1 (by decide) ?_
  refine q_aload_n dX12_withdraw_2 rfl ?_
  refine q_getR dX12_withdraw_3 fF_RX12_9 fl_168_0 ?_
  refine q_iconst (v := 4) dX12_withdraw_6 (by decide) ?_
  refine q_ialdX (v := (σ 169 4)) dX12_withdraw_7 ar_169 (vt_inl rfl) rfl ?_
  refine q_iconst (v := 1) dX12_withdraw_8 (by decide) ?_
  refine q_isub dX12_withdraw_9 ?_
  refine q_cSb (C := ¬ p1 < (0 : Int32) ∧ ¬ ((σ 169 4) - 1) < p1) (d' := 0) [.int p1, .int 0, .int ((σ 169 4) - 1)] [] dX12_withdraw_10 ok_X12_within mk_RX12_49 rfl (Nat.le_of_ble_eq_true rfl) (by first | decide | omega) (fun Φ h9 => c_X12_within (σ := σ) Φ h9) (fun c1 => ?_) (fun c1 => ?_)
  · have h := h.1 c1
    refine q_if_ne (tgt := 19) dX12_withdraw_13 (by decide) (fun _ => ?_) (fun c => absurd c (by decide))
    refine q_aload_n dX12_withdraw_19 rfl ?_
    refine q_iload_n dX12_withdraw_20 rfl ?_
    obtain ⟨hp2, h⟩ := h
    refine q_cVi (e := ((σ 169 (340 + 2 * p1 + 1).toNatClampNeg) / 175692 - 1)) (d' := 0) [.int p1] [] dX12_withdraw_21 ok_X12_gone mk_RX12_121 rc_168 rfl (Nat.le_of_ble_eq_true rfl) (by first | decide | omega) (fun Φ h9 => c_X12_gone (σ := σ) hp2 Φ h9) ?_
    refine q_if_lt (tgt := 30) dX12_withdraw_24 (by decide) (fun c3 => ?_) (fun c3 => ?_)
    · have h := h.1 c3
      refine q_aload_n dX12_withdraw_30 rfl ?_
      refine q_getR dX12_withdraw_31 fF_RX12_9 fl_168_0 ?_
      refine q_sipush (v := 340) dX12_withdraw_34 (by decide) ?_
      refine q_iconst (v := 2) dX12_withdraw_37 (by decide) ?_
      refine q_iload_n dX12_withdraw_38 rfl ?_
      refine q_imul dX12_withdraw_39 ?_
      refine q_iadd dX12_withdraw_40 ?_
      refine q_iconst (v := 1) dX12_withdraw_41 (by decide) ?_
      refine q_iadd dX12_withdraw_42 ?_
      refine q_dup2 dX12_withdraw_43 rfl rfl ?_
      obtain ⟨hi4, h⟩ := h
      refine q_ialdX (v := (σ 169 ((340 + (2 * p1)) + 1).toNatClampNeg)) dX12_withdraw_44 ar_169 hi4 rfl ?_
      refine q_ldc dX12_withdraw_45 ct_RX12_120 ?_
      refine q_aload_n dX12_withdraw_47 rfl ?_
      refine q_getR dX12_withdraw_48 fF_RX12_9 fl_168_0 ?_
      refine q_iconst (v := 0) dX12_withdraw_51 (by decide) ?_
      refine q_ialdX (v := (σ 169 0)) dX12_withdraw_52 ar_169 (vt_inl rfl) rfl ?_
      refine q_iconst (v := 1) dX12_withdraw_53 (by decide) ?_
      refine q_iadd dX12_withdraw_54 ?_
      refine q_imul dX12_withdraw_55 ?_
      refine q_iadd dX12_withdraw_56 ?_
      refine q_iastX (F := upd (σ 169) (((340 + (2 * p1)) + 1).toNatClampNeg) ((σ 169 ((340 + (2 * p1)) + 1).toNatClampNeg) + (175692 * ((σ 169 0) + 1)))) dX12_withdraw_57 ar_169 hi4 rfl ?_
      refine q_iconst (v := 1) dX12_withdraw_58 (by decide) ?_
      exact q_iret .int rfl rfl dX12_withdraw_59 h
    · have h := h.2 c3
      refine q_ldc dX12_withdraw_27 ct_RX12_80 ?_
      exact q_iret .int rfl rfl dX12_withdraw_29 h
  · have h := h.2 c1
    refine q_if_ne (tgt := 19) dX12_withdraw_13 (by decide) (fun c => absurd rfl c) (fun _ => ?_)
    refine q_ldc dX12_withdraw_16 ct_RX12_57 ?_
    exact q_iret .int rfl rfl dX12_withdraw_18 h

theorem s_X12_line_0 (g : vt_GT) (σ : vt_Sg) (P : Option Value → vt_Sg → Prop) (p1 : Int32) (p2 : Int32)
  (h : ((¬ p1 < (0 : Int32) ∧ ¬ ((σ 169 4) - 1) < p1) → ((¬ p2 < (0 : Int32) ∧ ¬ (4 : Int32) < p2) → vp_in ((340 + (2 * p1)) + 1) 2220 ∧ ((¬ p2 = 0 → (¬ p2 = 1 → (¬ p2 = 2 → (¬ p2 = 3 → vp_in (340 + 2 * p1 + 1) 2220 ∧ ((0 ≤ ((σ 169 (340 + 2 * p1 + 1).toNatClampNeg) / 175692 - 1) → P (some (.int ((σ 169 (340 + 2 * p1 + 1).toNatClampNeg) / 175692 - 1))) σ) ∧ (¬ 0 ≤ ((σ 169 (340 + 2 * p1 + 1).toNatClampNeg) / 175692 - 1) → P (some (.int (-1000000005))) σ))) ∧ (p2 = 3 → P (some (.int (((σ 169 ((340 + (2 * p1)) + 1).toNatClampNeg) / 1452) - ((σ 169 ((340 + (2 * p1)) + 1).toNatClampNeg) / 1452) / 121 * 121))) σ)) ∧ (p2 = 2 → vp_in (340 + (2 * p1)) 2220 ∧ (P (some (.int (σ 169 (340 + (2 * p1)).toNatClampNeg))) σ))) ∧ (p2 = 1 → P (some (.int (((σ 169 ((340 + (2 * p1)) + 1).toNatClampNeg) / 12) - ((σ 169 ((340 + (2 * p1)) + 1).toNatClampNeg) / 12) / 121 * 121))) σ)) ∧ (p2 = 0 → P (some (.int ((σ 169 ((340 + (2 * p1)) + 1).toNatClampNeg) - (σ 169 ((340 + (2 * p1)) + 1).toNatClampNeg) / 12 * 12))) σ))) ∧ (¬ (¬ p2 < (0 : Int32) ∧ ¬ (4 : Int32) < p2) → P (some (.int (-1000000001))) σ)) ∧ (¬ (¬ p1 < (0 : Int32) ∧ ¬ ((σ 169 4) - 1) < p1) → P (some (.int (-1000000001))) σ)) :
  TT g (vt_R 1) 0 0 D_X12_line none 0 [some (.ref (g.2.1 168)), some (.int p1), some (.int p2), none] [] σ P := by
  refine q_iload_n dX12_line_0 rfl ?_
  refine q_iconst (v := 0) dX12_line_1 (by decide) ?_
  refine q_aload_n dX12_line_2 rfl ?_
  refine q_getR dX12_line_3 fF_RX12_9 fl_168_0 ?_
  refine q_iconst (v := 4) dX12_line_6 (by decide) ?_
  refine q_ialdX (v := (σ 169 4)) dX12_line_7 ar_169 (vt_inl rfl) rfl ?_
  refine q_iconst (v := 1) dX12_line_8 (by decide) ?_
  refine q_isub dX12_line_9 ?_
  refine q_cSb (C := ¬ p1 < (0 : Int32) ∧ ¬ ((σ 169 4) - 1) < p1) (d' := 0) [.int p1, .int 0, .int ((σ 169 4) - 1)] [] dX12_line_10 ok_X12_within mk_RX12_49 rfl (Nat.le_of_ble_eq_true rfl) (by first | decide | omega) (fun Φ h9 => c_X12_within (σ := σ) Φ h9) (fun c1 => ?_) (fun c1 => ?_)
  · have h := h.1 c1
    refine q_if_eq (tgt := 25) dX12_line_13 (by decide) (fun c => absurd c (by decide)) (fun _ => ?_)
    refine q_iload_n dX12_line_16 rfl ?_
    refine q_iconst (v := 0) dX12_line_17 (by decide) ?_
    refine q_iconst (v := 4) dX12_line_18 (by decide) ?_
    refine q_cSb (C := ¬ p2 < (0 : Int32) ∧ ¬ (4 : Int32) < p2) (d' := 0) [.int p2, .int 0, .int 4] [] dX12_line_19 ok_X12_within mk_RX12_49 rfl (Nat.le_of_ble_eq_true rfl) (by first | decide | omega) (fun Φ h9 => c_X12_within (σ := σ) Φ h9) (fun c2 => ?_) (fun c2 => ?_)
    · have h := h.1 c2
      refine q_if_ne (tgt := 28) dX12_line_22 (by decide) (fun _ => ?_) (fun c => absurd c (by decide))
      refine q_aload_n dX12_line_28 rfl ?_
      refine q_getR dX12_line_29 fF_RX12_9 fl_168_0 ?_
      refine q_sipush (v := 340) dX12_line_32 (by decide) ?_
      refine q_iconst (v := 2) dX12_line_35 (by decide) ?_
      refine q_iload_n dX12_line_36 rfl ?_
      refine q_imul dX12_line_37 ?_
      refine q_iadd dX12_line_38 ?_
      refine q_iconst (v := 1) dX12_line_39 (by decide) ?_
      refine q_iadd dX12_line_40 ?_
      obtain ⟨hi3, h⟩ := h
      refine q_ialdX (v := (σ 169 ((340 + (2 * p1)) + 1).toNatClampNeg)) dX12_line_41 ar_169 hi3 rfl ?_
      refine q_istore_n (L' := [some (.ref (g.2.1 168)), some (.int p1), some (.int p2), some (.int (σ 169 ((340 + (2 * p1)) + 1).toNatClampNeg))]) dX12_line_42 (by decide) rfl rfl ?_
      refine q_iload_n dX12_line_43 rfl ?_
      refine q_if_ne (tgt := 54) dX12_line_44 (by decide) (fun c4 => ?_) (fun c4 => ?_)
      · have h := h.1 c4
        refine q_iload_n dX12_line_54 rfl ?_
        refine q_iconst (v := 1) dX12_line_55 (by decide) ?_
        refine q_icmp_ne (tgt := 69) dX12_line_56 (by decide) (fun c5 => ?_) (fun c5 => ?_)
        · have h := h.1 c5
          refine q_iload_n dX12_line_69 rfl ?_
          refine q_iconst (v := 2) dX12_line_70 (by decide) ?_
          refine q_icmp_ne (tgt := 89) dX12_line_71 (by decide) (fun c6 => ?_) (fun c6 => ?_)
          · have h := h.1 c6
            refine q_iload_n dX12_line_89 rfl ?_
            refine q_iconst (v := 3) dX12_line_90 (by decide) ?_
            refine q_icmp_ne (tgt := 105) dX12_line_91 (by decide) (fun c7 => ?_) (fun c7 => ?_)
            · have h := h.1 c7
              refine q_aload_n dX12_line_105 rfl ?_
              refine q_iload_n dX12_line_106 rfl ?_
              obtain ⟨hp8, h⟩ := h
              refine q_cVi (e := ((σ 169 (340 + 2 * p1 + 1).toNatClampNeg) / 175692 - 1)) (d' := 0) [.int p1] [] dX12_line_107 ok_X12_gone mk_RX12_121 rc_168 rfl (Nat.le_of_ble_eq_true rfl) (by first | decide | omega) (fun Φ h9 => c_X12_gone (σ := σ) hp8 Φ h9) ?_
              refine q_if_ge (tgt := 118) dX12_line_110 (by decide) (fun c9 => ?_) (fun c9 => ?_)
              · have h := h.1 c9
                refine q_aload_n dX12_line_118 rfl ?_
                refine q_iload_n dX12_line_119 rfl ?_
                refine q_cVi (e := ((σ 169 (340 + 2 * p1 + 1).toNatClampNeg) / 175692 - 1)) (d' := 0) [.int p1] [] dX12_line_120 ok_X12_gone mk_RX12_121 rc_168 rfl (Nat.le_of_ble_eq_true rfl) (by first | decide | omega) (fun Φ h9 => c_X12_gone (σ := σ) hp8 Φ h9) ?_
                exact q_iret .int rfl rfl dX12_line_123 h
              · have h := h.2 c9
                refine q_ldc dX12_line_113 ct_RX12_71 ?_
                refine q_goto (tgt := 123) dX12_line_115 (by decide) ?_
                exact q_iret .int rfl rfl dX12_line_123 h
            · have h := h.2 c7
              refine q_iload_n dX12_line_94 rfl ?_
              refine q_sipush (v := 1452) dX12_line_95 (by decide) ?_
              refine q_idiv dX12_line_98 (by decide) ?_
              refine q_bipush (v := 121) dX12_line_99 (by decide) ?_
              refine q_irem dX12_line_101 (by decide) ?_
              refine q_goto (tgt := 123) dX12_line_102 (by decide) ?_
              exact q_iret .int rfl rfl dX12_line_123 h
          · have h := h.2 c6
            refine q_aload_n dX12_line_74 rfl ?_
            refine q_getR dX12_line_75 fF_RX12_9 fl_168_0 ?_
            refine q_sipush (v := 340) dX12_line_78 (by decide) ?_
            refine q_iconst (v := 2) dX12_line_81 (by decide) ?_
            refine q_iload_n dX12_line_82 rfl ?_
            refine q_imul dX12_line_83 ?_
            refine q_iadd dX12_line_84 ?_
            obtain ⟨hi10, h⟩ := h
            refine q_ialdX (v := (σ 169 (340 + (2 * p1)).toNatClampNeg)) dX12_line_85 ar_169 hi10 rfl ?_
            refine q_goto (tgt := 123) dX12_line_86 (by decide) ?_
            exact q_iret .int rfl rfl dX12_line_123 h
        · have h := h.2 c5
          refine q_iload_n dX12_line_59 rfl ?_
          refine q_bipush (v := 12) dX12_line_60 (by decide) ?_
          refine q_idiv dX12_line_62 (by decide) ?_
          refine q_bipush (v := 121) dX12_line_63 (by decide) ?_
          refine q_irem dX12_line_65 (by decide) ?_
          refine q_goto (tgt := 123) dX12_line_66 (by decide) ?_
          exact q_iret .int rfl rfl dX12_line_123 h
      · have h := h.2 c4
        refine q_iload_n dX12_line_47 rfl ?_
        refine q_bipush (v := 12) dX12_line_48 (by decide) ?_
        refine q_irem dX12_line_50 (by decide) ?_
        refine q_goto (tgt := 123) dX12_line_51 (by decide) ?_
        exact q_iret .int rfl rfl dX12_line_123 h
    · have h := h.2 c2
      refine q_if_ne (tgt := 28) dX12_line_22 (by decide) (fun c => absurd rfl c) (fun _ => ?_)
      refine q_ldc dX12_line_25 ct_RX12_57 ?_
      exact q_iret .int rfl rfl dX12_line_27 h
  · have h := h.2 c1
    refine q_if_eq (tgt := 25) dX12_line_13 (by decide) (fun _ => ?_) (fun c => absurd (by decide) c)
    refine q_ldc dX12_line_25 ct_RX12_57 ?_
    exact q_iret .int rfl rfl dX12_line_27 h

theorem s_X12_taken_0 (g : vt_GT) (σ : vt_Sg) (P : Option Value → vt_Sg → Prop) (p1 : Int32) (p2 : Int32) (p3 : Int32)
  (h : TT g (vt_R 1) 0 0 D_X12_taken none 6 [some (.ref (g.2.1 168)), some (.int p1), some (.int p2), some (.int p3), some (.int 0), some (.int 0), none, none] [] σ P) :
  TT g (vt_R 1) 0 0 D_X12_taken none 0 [some (.ref (g.2.1 168)), some (.int p1), some (.int p2), some (.int p3), none, none, none, none] [] σ P := by
  refine q_iconst (v := 0) dX12_taken_0 (by decide) ?_
  refine q_istore (L' := [some (.ref (g.2.1 168)), some (.int p1), some (.int p2), some (.int p3), some (.int 0), none, none, none]) dX12_taken_1 (by decide) rfl rfl ?_
  refine q_iconst (v := 0) dX12_taken_3 (by decide) ?_
  refine q_istore (L' := [some (.ref (g.2.1 168)), some (.int p1), some (.int p2), some (.int p3), some (.int 0), some (.int 0), none, none]) dX12_taken_4 (by decide) rfl rfl ?_
  exact h

theorem s_X12_taken_6 (g : vt_GT) (σ : vt_Sg) (P : Option Value → vt_Sg → Prop) (x1 : Int32) (x2 : Int32) (x3 : Int32) (x4 : Int32) (x5 : Int32)
  (h : ((σ 169 4) ≤ x5 → P (some (.int (if 0 < x4 then x4 else 0))) σ) ∧ (¬ (σ 169 4) ≤ x5 → vp_in ((340 + (2 * x5)) + 1) 2220 ∧ ((¬ ((σ 169 ((340 + (2 * x5)) + 1).toNatClampNeg) - (σ 169 ((340 + (2 * x5)) + 1).toNatClampNeg) / 12 * 12) = x1 → TT g (vt_R 1) 0 0 D_X12_taken none 6 [some (.ref (g.2.1 168)), some (.int x1), some (.int x2), some (.int x3), some (.int (x4 + 0)), some (.int (x5 + 1)), none, none] [] σ P) ∧ (((σ 169 ((340 + (2 * x5)) + 1).toNatClampNeg) - (σ 169 ((340 + (2 * x5)) + 1).toNatClampNeg) / 12 * 12) = x1 → (¬ (((σ 169 ((340 + (2 * x5)) + 1).toNatClampNeg) / 12) - ((σ 169 ((340 + (2 * x5)) + 1).toNatClampNeg) / 12) / 121 * 121) = x2 → TT g (vt_R 1) 0 0 D_X12_taken none 6 [some (.ref (g.2.1 168)), some (.int x1), some (.int x2), some (.int x3), some (.int (x4 + 0)), some (.int (x5 + 1)), none, none] [] σ P) ∧ ((((σ 169 ((340 + (2 * x5)) + 1).toNatClampNeg) / 12) - ((σ 169 ((340 + (2 * x5)) + 1).toNatClampNeg) / 12) / 121 * 121) = x2 → (x3 < (((σ 169 ((340 + (2 * x5)) + 1).toNatClampNeg) / 1452) - ((σ 169 ((340 + (2 * x5)) + 1).toNatClampNeg) / 1452) / 121 * 121) → TT g (vt_R 1) 0 0 D_X12_taken none 6 [some (.ref (g.2.1 168)), some (.int x1), some (.int x2), some (.int x3), some (.int (x4 + 0)), some (.int (x5 + 1)), none, none] [] σ P) ∧ (¬ x3 < (((σ 169 ((340 + (2 * x5)) + 1).toNatClampNeg) / 1452) - ((σ 169 ((340 + (2 * x5)) + 1).toNatClampNeg) / 1452) / 121 * 121) → vp_in (340 + 2 * x5 + 1) 2220 ∧ ((((σ 169 (340 + 2 * x5 + 1).toNatClampNeg) / 175692 - 1) < 0 → vp_in (340 + (2 * x5)) 2220 ∧ (TT g (vt_R 1) 0 0 D_X12_taken none 6 [some (.ref (g.2.1 168)), some (.int x1), some (.int x2), some (.int x3), some (.int (x4 + (σ 169 (340 + (2 * x5)).toNatClampNeg))), some (.int (x5 + 1)), none, none] [] σ P)) ∧ (¬ ((σ 169 (340 + 2 * x5 + 1).toNatClampNeg) / 175692 - 1) < 0 → (((σ 169 (340 + 2 * x5 + 1).toNatClampNeg) / 175692 - 1) ≤ x3 → TT g (vt_R 1) 0 0 D_X12_taken none 6 [some (.ref (g.2.1 168)), some (.int x1), some (.int x2), some (.int x3), some (.int (x4 + 0)), some (.int (x5 + 1)), none, none] [] σ P) ∧ (¬ ((σ 169 (340 + 2 * x5 + 1).toNatClampNeg) / 175692 - 1) ≤ x3 → vp_in (340 + (2 * x5)) 2220 ∧ (TT g (vt_R 1) 0 0 D_X12_taken none 6 [some (.ref (g.2.1 168)), some (.int x1), some (.int x2), some (.int x3), some (.int (x4 + (σ 169 (340 + (2 * x5)).toNatClampNeg))), some (.int (x5 + 1)), none, none] [] σ P)))))))))) :
  TT g (vt_R 1) 0 0 D_X12_taken none 6 [some (.ref (g.2.1 168)), some (.int x1), some (.int x2), some (.int x3), some (.int x4), some (.int x5), none, none] [] σ P := by
  refine q_iload dX12_taken_6 rfl ?_
  refine q_aload_n dX12_taken_8 rfl ?_
  refine q_getR dX12_taken_9 fF_RX12_9 fl_168_0 ?_
  refine q_iconst (v := 4) dX12_taken_12 (by decide) ?_
  refine q_ialdX (v := (σ 169 4)) dX12_taken_13 ar_169 (vt_inl rfl) rfl ?_
  refine q_icmp_ge (tgt := 127) dX12_taken_14 (by decide) (fun c1 => ?_) (fun c1 => ?_)
  · have h := h.1 c1
    refine q_iconst (v := 0) dX12_taken_127 (by decide) ?_
    refine q_iload dX12_taken_128 rfl ?_
    refine q_max dX12_taken_130 mk_RX12_98 sta_max ini_math cod_max (Nat.le_of_ble_eq_true rfl) (by first | decide | omega) ?_
    exact q_iret .int rfl rfl dX12_taken_133 h
  · have h := h.2 c1
    refine q_aload_n dX12_taken_17 rfl ?_
    refine q_getR dX12_taken_18 fF_RX12_9 fl_168_0 ?_
    refine q_sipush (v := 340) dX12_taken_21 (by decide) ?_
    refine q_iconst (v := 2) dX12_taken_24 (by decide) ?_
    refine q_iload dX12_taken_25 rfl ?_
    refine q_imul dX12_taken_27 ?_
    refine q_iadd dX12_taken_28 ?_
    refine q_iconst (v := 1) dX12_taken_29 (by decide) ?_
    refine q_iadd dX12_taken_30 ?_
    obtain ⟨hi2, h⟩ := h
    refine q_ialdX (v := (σ 169 ((340 + (2 * x5)) + 1).toNatClampNeg)) dX12_taken_31 ar_169 hi2 rfl ?_
    refine q_istore (L' := [some (.ref (g.2.1 168)), some (.int x1), some (.int x2), some (.int x3), some (.int x4), some (.int x5), some (.int (σ 169 ((340 + (2 * x5)) + 1).toNatClampNeg)), none]) dX12_taken_32 (by decide) rfl rfl ?_
    refine q_iload dX12_taken_34 rfl ?_
    refine q_bipush (v := 12) dX12_taken_36 (by decide) ?_
    refine q_irem dX12_taken_38 (by decide) ?_
    refine q_iload_n dX12_taken_39 rfl ?_
    refine q_icmp_ne (tgt := 91) dX12_taken_40 (by decide) (fun c3 => ?_) (fun c3 => ?_)
    · have h := h.1 c3
      refine q_iconst (v := 0) dX12_taken_91 (by decide) ?_
      refine q_istore (L' := [some (.ref (g.2.1 168)), some (.int x1), some (.int x2), some (.int x3), some (.int x4), some (.int x5), some (.int (σ 169 ((340 + (2 * x5)) + 1).toNatClampNeg)), some (.int 0)]) dX12_taken_92 (by decide) rfl rfl ?_
      refine q_iload dX12_taken_94 rfl ?_
      refine q_iload dX12_taken_96 rfl ?_
      refine q_if_eq (tgt := 117) dX12_taken_98 (by decide) (fun _ => ?_) (fun c => absurd (by decide) c)
      refine q_iconst (v := 0) dX12_taken_117 (by decide) ?_
      refine q_iadd dX12_taken_118 ?_
      refine q_istore (L' := [some (.ref (g.2.1 168)), some (.int x1), some (.int x2), some (.int x3), some (.int (x4 + 0)), some (.int x5), some (.int (σ 169 ((340 + (2 * x5)) + 1).toNatClampNeg)), some (.int 0)]) dX12_taken_119 (by decide) rfl rfl ?_
      refine q_iinc (L' := [some (.ref (g.2.1 168)), some (.int x1), some (.int x2), some (.int x3), some (.int (x4 + 0)), some (.int (x5 + 1)), some (.int (σ 169 ((340 + (2 * x5)) + 1).toNatClampNeg)), some (.int 0)]) dX12_taken_121 rfl (by decide) rfl rfl ?_
      refine q_goto (tgt := 6) dX12_taken_124 (by decide) ?_
      exact q_wk (by simp [vt_le]) h
    · have h := h.2 c3
      refine q_iload dX12_taken_43 rfl ?_
      refine q_bipush (v := 12) dX12_taken_45 (by decide) ?_
      refine q_idiv dX12_taken_47 (by decide) ?_
      refine q_bipush (v := 121) dX12_taken_48 (by decide) ?_
      refine q_irem dX12_taken_50 (by decide) ?_
      refine q_iload_n dX12_taken_51 rfl ?_
      refine q_icmp_ne (tgt := 91) dX12_taken_52 (by decide) (fun c4 => ?_) (fun c4 => ?_)
      · have h := h.1 c4
        refine q_iconst (v := 0) dX12_taken_91 (by decide) ?_
        refine q_istore (L' := [some (.ref (g.2.1 168)), some (.int x1), some (.int x2), some (.int x3), some (.int x4), some (.int x5), some (.int (σ 169 ((340 + (2 * x5)) + 1).toNatClampNeg)), some (.int 0)]) dX12_taken_92 (by decide) rfl rfl ?_
        refine q_iload dX12_taken_94 rfl ?_
        refine q_iload dX12_taken_96 rfl ?_
        refine q_if_eq (tgt := 117) dX12_taken_98 (by decide) (fun _ => ?_) (fun c => absurd (by decide) c)
        refine q_iconst (v := 0) dX12_taken_117 (by decide) ?_
        refine q_iadd dX12_taken_118 ?_
        refine q_istore (L' := [some (.ref (g.2.1 168)), some (.int x1), some (.int x2), some (.int x3), some (.int (x4 + 0)), some (.int x5), some (.int (σ 169 ((340 + (2 * x5)) + 1).toNatClampNeg)), some (.int 0)]) dX12_taken_119 (by decide) rfl rfl ?_
        refine q_iinc (L' := [some (.ref (g.2.1 168)), some (.int x1), some (.int x2), some (.int x3), some (.int (x4 + 0)), some (.int (x5 + 1)), some (.int (σ 169 ((340 + (2 * x5)) + 1).toNatClampNeg)), some (.int 0)]) dX12_taken_121 rfl (by decide) rfl rfl ?_
        refine q_goto (tgt := 6) dX12_taken_124 (by decide) ?_
        exact q_wk (by simp [vt_le]) h
      · have h := h.2 c4
        refine q_iload dX12_taken_55 rfl ?_
        refine q_sipush (v := 1452) dX12_taken_57 (by decide) ?_
        refine q_idiv dX12_taken_60 (by decide) ?_
        refine q_bipush (v := 121) dX12_taken_61 (by decide) ?_
        refine q_irem dX12_taken_63 (by decide) ?_
        refine q_iload_n dX12_taken_64 rfl ?_
        refine q_icmp_gt (tgt := 91) dX12_taken_65 (by decide) (fun c5 => ?_) (fun c5 => ?_)
        · have h := h.1 c5
          refine q_iconst (v := 0) dX12_taken_91 (by decide) ?_
          refine q_istore (L' := [some (.ref (g.2.1 168)), some (.int x1), some (.int x2), some (.int x3), some (.int x4), some (.int x5), some (.int (σ 169 ((340 + (2 * x5)) + 1).toNatClampNeg)), some (.int 0)]) dX12_taken_92 (by decide) rfl rfl ?_
          refine q_iload dX12_taken_94 rfl ?_
          refine q_iload dX12_taken_96 rfl ?_
          refine q_if_eq (tgt := 117) dX12_taken_98 (by decide) (fun _ => ?_) (fun c => absurd (by decide) c)
          refine q_iconst (v := 0) dX12_taken_117 (by decide) ?_
          refine q_iadd dX12_taken_118 ?_
          refine q_istore (L' := [some (.ref (g.2.1 168)), some (.int x1), some (.int x2), some (.int x3), some (.int (x4 + 0)), some (.int x5), some (.int (σ 169 ((340 + (2 * x5)) + 1).toNatClampNeg)), some (.int 0)]) dX12_taken_119 (by decide) rfl rfl ?_
          refine q_iinc (L' := [some (.ref (g.2.1 168)), some (.int x1), some (.int x2), some (.int x3), some (.int (x4 + 0)), some (.int (x5 + 1)), some (.int (σ 169 ((340 + (2 * x5)) + 1).toNatClampNeg)), some (.int 0)]) dX12_taken_121 rfl (by decide) rfl rfl ?_
          refine q_goto (tgt := 6) dX12_taken_124 (by decide) ?_
          exact q_wk (by simp [vt_le]) h
        · have h := h.2 c5
          refine q_aload_n dX12_taken_68 rfl ?_
          refine q_iload dX12_taken_69 rfl ?_
          obtain ⟨hp6, h⟩ := h
          refine q_cVi (e := ((σ 169 (340 + 2 * x5 + 1).toNatClampNeg) / 175692 - 1)) (d' := 0) [.int x5] [] dX12_taken_71 ok_X12_gone mk_RX12_121 rc_168 rfl (Nat.le_of_ble_eq_true rfl) (by first | decide | omega) (fun Φ h9 => c_X12_gone (σ := σ) hp6 Φ h9) ?_
          refine q_if_lt (tgt := 87) dX12_taken_74 (by decide) (fun c7 => ?_) (fun c7 => ?_)
          · have h := h.1 c7
            refine q_iconst (v := 1) dX12_taken_87 (by decide) ?_
            refine q_goto (tgt := 92) dX12_taken_88 (by decide) ?_
            refine q_istore (L' := [some (.ref (g.2.1 168)), some (.int x1), some (.int x2), some (.int x3), some (.int x4), some (.int x5), some (.int (σ 169 ((340 + (2 * x5)) + 1).toNatClampNeg)), some (.int 1)]) dX12_taken_92 (by decide) rfl rfl ?_
            refine q_iload dX12_taken_94 rfl ?_
            refine q_iload dX12_taken_96 rfl ?_
            refine q_if_eq (tgt := 117) dX12_taken_98 (by decide) (fun c => absurd c (by decide)) (fun _ => ?_)
            refine q_aload_n dX12_taken_101 rfl ?_
            refine q_getR dX12_taken_102 fF_RX12_9 fl_168_0 ?_
            refine q_sipush (v := 340) dX12_taken_105 (by decide) ?_
            refine q_iconst (v := 2) dX12_taken_108 (by decide) ?_
            refine q_iload dX12_taken_109 rfl ?_
            refine q_imul dX12_taken_111 ?_
            refine q_iadd dX12_taken_112 ?_
            obtain ⟨hi8, h⟩ := h
            refine q_ialdX (v := (σ 169 (340 + (2 * x5)).toNatClampNeg)) dX12_taken_113 ar_169 hi8 rfl ?_
            refine q_goto (tgt := 118) dX12_taken_114 (by decide) ?_
            refine q_iadd dX12_taken_118 ?_
            refine q_istore (L' := [some (.ref (g.2.1 168)), some (.int x1), some (.int x2), some (.int x3), some (.int (x4 + (σ 169 (340 + (2 * x5)).toNatClampNeg))), some (.int x5), some (.int (σ 169 ((340 + (2 * x5)) + 1).toNatClampNeg)), some (.int 1)]) dX12_taken_119 (by decide) rfl rfl ?_
            refine q_iinc (L' := [some (.ref (g.2.1 168)), some (.int x1), some (.int x2), some (.int x3), some (.int (x4 + (σ 169 (340 + (2 * x5)).toNatClampNeg))), some (.int (x5 + 1)), some (.int (σ 169 ((340 + (2 * x5)) + 1).toNatClampNeg)), some (.int 1)]) dX12_taken_121 rfl (by decide) rfl rfl ?_
            refine q_goto (tgt := 6) dX12_taken_124 (by decide) ?_
            exact q_wk (by simp [vt_le]) h
          · have h := h.2 c7
            refine q_aload_n dX12_taken_77 rfl ?_
            refine q_iload dX12_taken_78 rfl ?_
            refine q_cVi (e := ((σ 169 (340 + 2 * x5 + 1).toNatClampNeg) / 175692 - 1)) (d' := 0) [.int x5] [] dX12_taken_80 ok_X12_gone mk_RX12_121 rc_168 rfl (Nat.le_of_ble_eq_true rfl) (by first | decide | omega) (fun Φ h9 => c_X12_gone (σ := σ) hp6 Φ h9) ?_
            refine q_iload_n dX12_taken_83 rfl ?_
            refine q_icmp_le (tgt := 91) dX12_taken_84 (by decide) (fun c9 => ?_) (fun c9 => ?_)
            · have h := h.1 c9
              refine q_iconst (v := 0) dX12_taken_91 (by decide) ?_
              refine q_istore (L' := [some (.ref (g.2.1 168)), some (.int x1), some (.int x2), some (.int x3), some (.int x4), some (.int x5), some (.int (σ 169 ((340 + (2 * x5)) + 1).toNatClampNeg)), some (.int 0)]) dX12_taken_92 (by decide) rfl rfl ?_
              refine q_iload dX12_taken_94 rfl ?_
              refine q_iload dX12_taken_96 rfl ?_
              refine q_if_eq (tgt := 117) dX12_taken_98 (by decide) (fun _ => ?_) (fun c => absurd (by decide) c)
              refine q_iconst (v := 0) dX12_taken_117 (by decide) ?_
              refine q_iadd dX12_taken_118 ?_
              refine q_istore (L' := [some (.ref (g.2.1 168)), some (.int x1), some (.int x2), some (.int x3), some (.int (x4 + 0)), some (.int x5), some (.int (σ 169 ((340 + (2 * x5)) + 1).toNatClampNeg)), some (.int 0)]) dX12_taken_119 (by decide) rfl rfl ?_
              refine q_iinc (L' := [some (.ref (g.2.1 168)), some (.int x1), some (.int x2), some (.int x3), some (.int (x4 + 0)), some (.int (x5 + 1)), some (.int (σ 169 ((340 + (2 * x5)) + 1).toNatClampNeg)), some (.int 0)]) dX12_taken_121 rfl (by decide) rfl rfl ?_
              refine q_goto (tgt := 6) dX12_taken_124 (by decide) ?_
              exact q_wk (by simp [vt_le]) h
            · have h := h.2 c9
              refine q_iconst (v := 1) dX12_taken_87 (by decide) ?_
              refine q_goto (tgt := 92) dX12_taken_88 (by decide) ?_
              refine q_istore (L' := [some (.ref (g.2.1 168)), some (.int x1), some (.int x2), some (.int x3), some (.int x4), some (.int x5), some (.int (σ 169 ((340 + (2 * x5)) + 1).toNatClampNeg)), some (.int 1)]) dX12_taken_92 (by decide) rfl rfl ?_
              refine q_iload dX12_taken_94 rfl ?_
              refine q_iload dX12_taken_96 rfl ?_
              refine q_if_eq (tgt := 117) dX12_taken_98 (by decide) (fun c => absurd c (by decide)) (fun _ => ?_)
              refine q_aload_n dX12_taken_101 rfl ?_
              refine q_getR dX12_taken_102 fF_RX12_9 fl_168_0 ?_
              refine q_sipush (v := 340) dX12_taken_105 (by decide) ?_
              refine q_iconst (v := 2) dX12_taken_108 (by decide) ?_
              refine q_iload dX12_taken_109 rfl ?_
              refine q_imul dX12_taken_111 ?_
              refine q_iadd dX12_taken_112 ?_
              obtain ⟨hi10, h⟩ := h
              refine q_ialdX (v := (σ 169 (340 + (2 * x5)).toNatClampNeg)) dX12_taken_113 ar_169 hi10 rfl ?_
              refine q_goto (tgt := 118) dX12_taken_114 (by decide) ?_
              refine q_iadd dX12_taken_118 ?_
              refine q_istore (L' := [some (.ref (g.2.1 168)), some (.int x1), some (.int x2), some (.int x3), some (.int (x4 + (σ 169 (340 + (2 * x5)).toNatClampNeg))), some (.int x5), some (.int (σ 169 ((340 + (2 * x5)) + 1).toNatClampNeg)), some (.int 1)]) dX12_taken_119 (by decide) rfl rfl ?_
              refine q_iinc (L' := [some (.ref (g.2.1 168)), some (.int x1), some (.int x2), some (.int x3), some (.int (x4 + (σ 169 (340 + (2 * x5)).toNatClampNeg))), some (.int (x5 + 1)), some (.int (σ 169 ((340 + (2 * x5)) + 1).toNatClampNeg)), some (.int 1)]) dX12_taken_121 rfl (by decide) rfl rfl ?_
              refine q_goto (tgt := 6) dX12_taken_124 (by decide) ?_
              exact q_wk (by simp [vt_le]) h

theorem s_X12_takings_0 (g : vt_GT) (σ : vt_Sg) (P : Option Value → vt_Sg → Prop) (p1 : Int32) (p2 : Int32) (p3 : Int32)
  (h : ((¬ p1 < 0 ∧ ¬ (σ 169 2) - 1 < p1) → ((¬ p2 < 0 ∧ ¬ (σ 169 0) < p2) → ((¬ p3 < 0 ∧ ¬ (σ 169 0) < p3) → vt_Mi g 1 D_X12_taken [.ref (g.2.1 168), .int p1, .int p2, .int p3] σ (fun r5 σ4 => P (some (.int r5)) σ4)) ∧ (¬ (¬ p3 < 0 ∧ ¬ (σ 169 0) < p3) → P (some (.int (-1000000001))) σ)) ∧ (¬ (¬ p2 < 0 ∧ ¬ (σ 169 0) < p2) → P (some (.int (-1000000001))) σ)) ∧ (¬ (¬ p1 < 0 ∧ ¬ (σ 169 2) - 1 < p1) → P (some (.int (-1000000001))) σ)) :
  TT g (vt_R 2) 0 0 D_X12_takings none 0 [some (.ref (g.2.1 168)), some (.int p1), some (.int p2), some (.int p3)] [] σ P := by
  refine q_aload_n dX12_takings_0 rfl ?_
  refine q_iload_n dX12_takings_1 rfl ?_
  refine q_cVb (C := ¬ p1 < 0 ∧ ¬ (σ 169 2) - 1 < p1) (d' := 1) [.int p1] [] dX12_takings_2 ok_X12_isShop mk_RX12_65 rc_168 rfl (Nat.le_of_ble_eq_true rfl) (by first | decide | omega) (fun Φ h9 => c_X12_isShop (σ := σ) Φ h9) (fun c1 => ?_) (fun c1 => ?_)
  · have h := h.1 c1
    refine q_if_eq (tgt := 34) dX12_takings_5 (by decide) (fun c => absurd c (by decide)) (fun _ => ?_)
    refine q_aload_n dX12_takings_8 rfl ?_
    refine q_iload_n dX12_takings_9 rfl ?_
    refine q_cVb (C := ¬ p2 < 0 ∧ ¬ (σ 169 0) < p2) (d' := 1) [.int p2] [] dX12_takings_10 ok_X12_isPast mk_RX12_110 rc_168 rfl (Nat.le_of_ble_eq_true rfl) (by first | decide | omega) (fun Φ h9 => c_X12_isPast (σ := σ) Φ h9) (fun c2 => ?_) (fun c2 => ?_)
    · have h := h.1 c2
      refine q_if_eq (tgt := 34) dX12_takings_13 (by decide) (fun c => absurd c (by decide)) (fun _ => ?_)
      refine q_aload_n dX12_takings_16 rfl ?_
      refine q_iload_n dX12_takings_17 rfl ?_
      refine q_cVb (C := ¬ p3 < 0 ∧ ¬ (σ 169 0) < p3) (d' := 1) [.int p3] [] dX12_takings_18 ok_X12_isPast mk_RX12_110 rc_168 rfl (Nat.le_of_ble_eq_true rfl) (by first | decide | omega) (fun Φ h9 => c_X12_isPast (σ := σ) Φ h9) (fun c3 => ?_) (fun c3 => ?_)
      · have h := h.1 c3
        refine q_if_eq (tgt := 34) dX12_takings_21 (by decide) (fun c => absurd c (by decide)) (fun _ => ?_)
        refine q_aload_n dX12_takings_24 rfl ?_
        refine q_iload_n dX12_takings_25 rfl ?_
        refine q_iload_n dX12_takings_26 rfl ?_
        refine q_iload_n dX12_takings_27 rfl ?_
        refine q_cV (d' := 1) [.int p1, .int p2, .int p3] [] dX12_takings_28 ok_X12_taken mk_RX12_124 rc_168 rfl (Nat.le_of_ble_eq_true rfl) (by first | decide | omega) h (fun v σ4 h => ?_)
        obtain ⟨r5, rfl, h⟩ := h
        refine q_goto (tgt := 36) dX12_takings_31 (by decide) ?_
        exact q_iret .int rfl rfl dX12_takings_36 h
      · have h := h.2 c3
        refine q_if_eq (tgt := 34) dX12_takings_21 (by decide) (fun _ => ?_) (fun c => absurd (by decide) c)
        refine q_ldc dX12_takings_34 ct_RX12_57 ?_
        exact q_iret .int rfl rfl dX12_takings_36 h
    · have h := h.2 c2
      refine q_if_eq (tgt := 34) dX12_takings_13 (by decide) (fun _ => ?_) (fun c => absurd (by decide) c)
      refine q_ldc dX12_takings_34 ct_RX12_57 ?_
      exact q_iret .int rfl rfl dX12_takings_36 h
  · have h := h.2 c1
    refine q_if_eq (tgt := 34) dX12_takings_5 (by decide) (fun _ => ?_) (fun c => absurd (by decide) c)
    refine q_ldc dX12_takings_34 ct_RX12_57 ?_
    exact q_iret .int rfl rfl dX12_takings_36 h

theorem s_X12_beyond_0 (g : vt_GT) (σ : vt_Sg) (P : Option Value → vt_Sg → Prop) (p1 : Int32) (p2 : Int32) (p3 : Int32)
  (h : ((¬ p1 < 0 ∧ ¬ (σ 169 2) - 1 < p1) → ((¬ p2 < 0 ∧ ¬ (σ 169 0) < p2) → ((¬ p3 < 0 ∧ ¬ (σ 169 0) < p3) → vt_Mv g 1 D_X12_findStands [.ref (g.2.1 168), .int p2] σ (fun σ4 => vp_in p1 12 ∧ ((0 ≤ (σ4 175 p1.toNatClampNeg) → vt_Mi g 3 D_X12_foretold [.ref (g.2.1 168), .int p1] σ4 (fun r8 σ7 => vt_Mi g 1 D_X12_taken [.ref (g.2.1 168), .int p1, .int p2, .int p3] σ7 (fun r10 σ9 => (0 ≤ (lg_cmp r10.toInt64 ((r8.toInt64 * ((σ9 169 5).toInt64)) / 100)) → ((lg_cmp r10.toInt64 ((r8.toInt64 * ((σ9 169 6).toInt64)) / 100)) ≤ 0 → P (some (.int 0)) σ9) ∧ (¬ (lg_cmp r10.toInt64 ((r8.toInt64 * ((σ9 169 6).toInt64)) / 100)) ≤ 0 → P (some (.int 1)) σ9)) ∧ (¬ 0 ≤ (lg_cmp r10.toInt64 ((r8.toInt64 * ((σ9 169 5).toInt64)) / 100)) → P (some (.int (-1))) σ9)))) ∧ (¬ 0 ≤ (σ4 175 p1.toNatClampNeg) → P (some (.int (-1000000002))) σ4)))) ∧ (¬ (¬ p3 < 0 ∧ ¬ (σ 169 0) < p3) → P (some (.int (-1000000001))) σ)) ∧ (¬ (¬ p2 < 0 ∧ ¬ (σ 169 0) < p2) → P (some (.int (-1000000001))) σ)) ∧ (¬ (¬ p1 < 0 ∧ ¬ (σ 169 2) - 1 < p1) → P (some (.int (-1000000001))) σ)) :
  TT g (vt_R 4) 0 0 D_X12_beyond none 0 [some (.ref (g.2.1 168)), some (.int p1), some (.int p2), some (.int p3), none, none, none] [] σ P := by
  refine q_aload_n dX12_beyond_0 rfl ?_
  refine q_iload_n dX12_beyond_1 rfl ?_
  refine q_cVb (C := ¬ p1 < 0 ∧ ¬ (σ 169 2) - 1 < p1) (d' := 1) [.int p1] [] dX12_beyond_2 ok_X12_isShop mk_RX12_65 rc_168 rfl (Nat.le_of_ble_eq_true rfl) (by first | decide | omega) (fun Φ h9 => c_X12_isShop (σ := σ) Φ h9) (fun c1 => ?_) (fun c1 => ?_)
  · have h := h.1 c1
    refine q_if_eq (tgt := 24) dX12_beyond_5 (by decide) (fun c => absurd c (by decide)) (fun _ => ?_)
    refine q_aload_n dX12_beyond_8 rfl ?_
    refine q_iload_n dX12_beyond_9 rfl ?_
    refine q_cVb (C := ¬ p2 < 0 ∧ ¬ (σ 169 0) < p2) (d' := 1) [.int p2] [] dX12_beyond_10 ok_X12_isPast mk_RX12_110 rc_168 rfl (Nat.le_of_ble_eq_true rfl) (by first | decide | omega) (fun Φ h9 => c_X12_isPast (σ := σ) Φ h9) (fun c2 => ?_) (fun c2 => ?_)
    · have h := h.1 c2
      refine q_if_eq (tgt := 24) dX12_beyond_13 (by decide) (fun c => absurd c (by decide)) (fun _ => ?_)
      refine q_aload_n dX12_beyond_16 rfl ?_
      refine q_iload_n dX12_beyond_17 rfl ?_
      refine q_cVb (C := ¬ p3 < 0 ∧ ¬ (σ 169 0) < p3) (d' := 1) [.int p3] [] dX12_beyond_18 ok_X12_isPast mk_RX12_110 rc_168 rfl (Nat.le_of_ble_eq_true rfl) (by first | decide | omega) (fun Φ h9 => c_X12_isPast (σ := σ) Φ h9) (fun c3 => ?_) (fun c3 => ?_)
      · have h := h.1 c3
        refine q_if_ne (tgt := 27) dX12_beyond_21 (by decide) (fun _ => ?_) (fun c => absurd c (by decide))
        refine q_aload_n dX12_beyond_27 rfl ?_
        refine q_iload_n dX12_beyond_28 rfl ?_
        refine q_cV (d' := 1) [.int p2] [] dX12_beyond_29 ok_X12_findStands mk_RX12_72 rc_168 rfl (Nat.le_of_ble_eq_true rfl) (by first | decide | omega) h (fun v σ4 h => ?_)
        obtain ⟨rfl, h⟩ := h
        refine q_aload_n dX12_beyond_32 rfl ?_
        refine q_getR dX12_beyond_33 fF_RX12_28 fl_168_9 ?_
        refine q_iload_n dX12_beyond_36 rfl ?_
        obtain ⟨hi5, h⟩ := h
        refine q_ialdX (v := (σ4 175 p1.toNatClampNeg)) dX12_beyond_37 ar_175 hi5 rfl ?_
        refine q_if_ge (tgt := 44) dX12_beyond_38 (by decide) (fun c6 => ?_) (fun c6 => ?_)
        · have h := h.1 c6
          refine q_aload_n dX12_beyond_44 rfl ?_
          refine q_iload_n dX12_beyond_45 rfl ?_
          refine q_cV (d' := 3) [.int p1] [] dX12_beyond_46 ok_X12_foretold mk_RX12_113 rc_168 rfl (Nat.le_of_ble_eq_true rfl) (by first | decide | omega) h (fun v σ7 h => ?_)
          obtain ⟨r8, rfl, h⟩ := h
          refine q_i2l dX12_beyond_49 ?_
          refine q_lstore (L' := [some (.ref (g.2.1 168)), some (.int p1), some (.int p2), some (.int p3), some (.long r8.toInt64), none, none]) dX12_beyond_50 (by decide) rfl rfl ?_
          refine q_aload_n dX12_beyond_52 rfl ?_
          refine q_iload_n dX12_beyond_53 rfl ?_
          refine q_iload_n dX12_beyond_54 rfl ?_
          refine q_iload_n dX12_beyond_55 rfl ?_
          refine q_cV (d' := 1) [.int p1, .int p2, .int p3] [] dX12_beyond_56 ok_X12_taken mk_RX12_124 rc_168 rfl (Nat.le_of_ble_eq_true rfl) (by first | decide | omega) h (fun v σ9 h => ?_)
          obtain ⟨r10, rfl, h⟩ := h
          refine q_istore (L' := [some (.ref (g.2.1 168)), some (.int p1), some (.int p2), some (.int p3), some (.long r8.toInt64), none, some (.int r10)]) dX12_beyond_59 (by decide) rfl rfl ?_
          refine q_iload dX12_beyond_61 rfl ?_
          refine q_i2l dX12_beyond_63 ?_
          refine q_lload dX12_beyond_64 rfl ?_
          refine q_aload_n dX12_beyond_66 rfl ?_
          refine q_getR dX12_beyond_67 fF_RX12_9 fl_168_0 ?_
          refine q_iconst (v := 5) dX12_beyond_70 (by decide) ?_
          refine q_ialdX (v := (σ9 169 5)) dX12_beyond_71 ar_169 (vt_inl rfl) rfl ?_
          refine q_i2l dX12_beyond_72 ?_
          refine q_lmul dX12_beyond_73 ?_
          refine q_ldc2 dX12_beyond_74 cl_RX12_127 ?_
          refine q_ldiv dX12_beyond_77 (by decide) ?_
          refine q_lcmp dX12_beyond_78 ?_
          refine q_if_ge (tgt := 86) dX12_beyond_79 (by decide) (fun c11 => ?_) (fun c11 => ?_)
          · have h := h.1 c11
            refine q_iload dX12_beyond_86 rfl ?_
            refine q_i2l dX12_beyond_88 ?_
            refine q_lload dX12_beyond_89 rfl ?_
            refine q_aload_n dX12_beyond_91 rfl ?_
            refine q_getR dX12_beyond_92 fF_RX12_9 fl_168_0 ?_
            refine q_bipush (v := 6) dX12_beyond_95 (by decide) ?_
            refine q_ialdX (v := (σ9 169 6)) dX12_beyond_97 ar_169 (vt_inl rfl) rfl ?_
            refine q_i2l dX12_beyond_98 ?_
            refine q_lmul dX12_beyond_99 ?_
            refine q_ldc2 dX12_beyond_100 cl_RX12_127 ?_
            refine q_ldiv dX12_beyond_103 (by decide) ?_
            refine q_lcmp dX12_beyond_104 ?_
            refine q_if_le (tgt := 112) dX12_beyond_105 (by decide) (fun c12 => ?_) (fun c12 => ?_)
            · have h := h.1 c12
              refine q_iconst (v := 0) dX12_beyond_112 (by decide) ?_
              exact q_iret .int rfl rfl dX12_beyond_113 h
            · have h := h.2 c12
              refine q_iconst (v := 1) dX12_beyond_108 (by decide) ?_
              refine q_goto (tgt := 113) dX12_beyond_109 (by decide) ?_
              exact q_iret .int rfl rfl dX12_beyond_113 h
          · have h := h.2 c11
            refine q_iconst (v := (-1)) dX12_beyond_82 (by decide) ?_
            refine q_goto (tgt := 113) dX12_beyond_83 (by decide) ?_
            exact q_iret .int rfl rfl dX12_beyond_113 h
        · have h := h.2 c6
          refine q_ldc dX12_beyond_41 ct_RX12_80 ?_
          exact q_iret .int rfl rfl dX12_beyond_43 h
      · have h := h.2 c3
        refine q_if_ne (tgt := 27) dX12_beyond_21 (by decide) (fun c => absurd rfl c) (fun _ => ?_)
        refine q_ldc dX12_beyond_24 ct_RX12_57 ?_
        exact q_iret .int rfl rfl dX12_beyond_26 h
    · have h := h.2 c2
      refine q_if_eq (tgt := 24) dX12_beyond_13 (by decide) (fun _ => ?_) (fun c => absurd (by decide) c)
      refine q_ldc dX12_beyond_24 ct_RX12_57 ?_
      exact q_iret .int rfl rfl dX12_beyond_26 h
  · have h := h.2 c1
    refine q_if_eq (tgt := 24) dX12_beyond_5 (by decide) (fun _ => ?_) (fun c => absurd (by decide) c)
    refine q_ldc dX12_beyond_24 ct_RX12_57 ?_
    exact q_iret .int rfl rfl dX12_beyond_26 h

theorem s_X12_feed_0 (g : vt_GT) (σ : vt_Sg) (P : Option Value → vt_Sg → Prop) (p1 : Int32) (p2 : Int32) (p3 : Int32)
  (h : (((σ 168 4) + 12) ≤ 132 → TT g (vt_R 0) 0 0 D_X12_feed none 19 [some (.ref (g.2.1 168)), some (.int p1), some (.int p2), some (.int p3), some (.int 0), none] [] σ P) ∧ (¬ ((σ 168 4) + 12) ≤ 132 → P (some (.int (-1000000003))) σ)) :
  TT g (vt_R 0) 0 0 D_X12_feed none 0 [some (.ref (g.2.1 168)), some (.int p1), some (.int p2), some (.int p3), none, none] [] σ P := by
  refine q_aload_n dX12_feed_0 rfl ?_
  refine q_getX (x := (σ 168 4)) dX12_feed_1 fF_RX12_129 fl_168_4 rfl ?_
  refine q_bipush (v := 12) dX12_feed_4 (by decide) ?_
  refine q_iadd dX12_feed_6 ?_
  refine q_sipush (v := 132) dX12_feed_7 (by decide) ?_
  refine q_icmp_le (tgt := 16) dX12_feed_10 (by decide) (fun c1 => ?_) (fun c1 => ?_)
  · have h := h.1 c1
    refine q_iconst (v := 0) dX12_feed_16 (by decide) ?_
    refine q_istore (L' := [some (.ref (g.2.1 168)), some (.int p1), some (.int p2), some (.int p3), some (.int 0), none]) dX12_feed_17 (by decide) rfl rfl ?_
    exact h
  · have h := h.2 c1
    refine q_ldc dX12_feed_13 ct_RX12_59 ?_
    exact q_iret .int rfl rfl dX12_feed_15 h

theorem s_X12_feed_19 (g : vt_GT) (σ : vt_Sg) (P : Option Value → vt_Sg → Prop) (x1 : Int32) (x2 : Int32) (x3 : Int32) (x4 : Int32)
  (h : (12 ≤ x4 → P (some (.int (σ 168 4))) σ) ∧ (¬ 12 ≤ x4 → (4 ≤ x4 → (8 ≤ x4 → vp_in (σ 168 4) 132 ∧ (TT g (vt_R 0) 0 0 D_X12_feed none 19 [some (.ref (g.2.1 168)), some (.int x1), some (.int x2), some (.int x3), some (.int (x4 + 1)), none] [] (su (su σ 171 (upd (σ 171) ((σ 168 4).toNatClampNeg) ((x3 >>> ((24 - (8 * (x4 - x4 / 4 * 4))) &&& 31)) &&& 255))) 168 (upd (σ 168) 4 ((σ 168 4) + 1))) P)) ∧ (¬ 8 ≤ x4 → vp_in (σ 168 4) 132 ∧ (TT g (vt_R 0) 0 0 D_X12_feed none 19 [some (.ref (g.2.1 168)), some (.int x1), some (.int x2), some (.int x3), some (.int (x4 + 1)), none] [] (su (su σ 171 (upd (σ 171) ((σ 168 4).toNatClampNeg) ((x2 >>> ((24 - (8 * (x4 - x4 / 4 * 4))) &&& 31)) &&& 255))) 168 (upd (σ 168) 4 ((σ 168 4) + 1))) P))) ∧ (¬ 4 ≤ x4 → vp_in (σ 168 4) 132 ∧ (TT g (vt_R 0) 0 0 D_X12_feed none 19 [some (.ref (g.2.1 168)), some (.int x1), some (.int x2), some (.int x3), some (.int (x4 + 1)), none] [] (su (su σ 171 (upd (σ 171) ((σ 168 4).toNatClampNeg) ((x1 >>> ((24 - (8 * (x4 - x4 / 4 * 4))) &&& 31)) &&& 255))) 168 (upd (σ 168) 4 ((σ 168 4) + 1))) P)))) :
  TT g (vt_R 0) 0 0 D_X12_feed none 19 [some (.ref (g.2.1 168)), some (.int x1), some (.int x2), some (.int x3), some (.int x4), none] [] σ P := by
  refine q_iload dX12_feed_19 rfl ?_
  refine q_bipush (v := 12) dX12_feed_21 (by decide) ?_
  refine q_icmp_ge (tgt := 92) dX12_feed_23 (by decide) (fun c1 => ?_) (fun c1 => ?_)
  · have h := h.1 c1
    refine q_aload_n dX12_feed_92 rfl ?_
    refine q_getX (x := (σ 168 4)) dX12_feed_93 fF_RX12_129 fl_168_4 rfl ?_
    exact q_iret .int rfl rfl dX12_feed_96 h
  · have h := h.2 c1
    refine q_iload dX12_feed_26 rfl ?_
    refine q_iconst (v := 4) dX12_feed_28 (by decide) ?_
    refine q_icmp_ge (tgt := 36) dX12_feed_29 (by decide) (fun c2 => ?_) (fun c2 => ?_)
    · have h := h.1 c2
      refine q_iload dX12_feed_36 rfl ?_
      refine q_bipush (v := 8) dX12_feed_38 (by decide) ?_
      refine q_icmp_ge (tgt := 47) dX12_feed_40 (by decide) (fun c3 => ?_) (fun c3 => ?_)
      · have h := h.1 c3
        refine q_iload_n dX12_feed_47 rfl ?_
        refine q_istore (L' := [some (.ref (g.2.1 168)), some (.int x1), some (.int x2), some (.int x3), some (.int x4), some (.int x3)]) dX12_feed_48 (by decide) rfl rfl ?_
        refine q_aload_n dX12_feed_50 rfl ?_
        refine q_getR dX12_feed_51 fF_RX12_16 fl_168_3 ?_
        refine q_aload_n dX12_feed_54 rfl ?_
        refine q_getX (x := (σ 168 4)) dX12_feed_55 fF_RX12_129 fl_168_4 rfl ?_
        refine q_iload dX12_feed_58 rfl ?_
        refine q_bipush (v := 24) dX12_feed_60 (by decide) ?_
        refine q_bipush (v := 8) dX12_feed_62 (by decide) ?_
        refine q_iload dX12_feed_64 rfl ?_
        refine q_iconst (v := 4) dX12_feed_66 (by decide) ?_
        refine q_irem dX12_feed_67 (by decide) ?_
        refine q_imul dX12_feed_68 ?_
        refine q_isub dX12_feed_69 ?_
        refine q_ishr dX12_feed_70 ?_
        refine q_sipush (v := 255) dX12_feed_71 (by decide) ?_
        refine q_iand dX12_feed_74 ?_
        obtain ⟨hi4, h⟩ := h
        refine q_iastX (F := upd (σ 171) ((σ 168 4).toNatClampNeg) ((x3 >>> ((24 - (8 * (x4 - x4 / 4 * 4))) &&& 31)) &&& 255)) dX12_feed_75 ar_171 hi4 rfl ?_
        refine q_aload_n dX12_feed_76 rfl ?_
        refine q_dup dX12_feed_77 rfl ?_
        refine q_getX (x := (σ 168 4)) dX12_feed_78 fF_RX12_129 fl_168_4 rfl ?_
        refine q_iconst (v := 1) dX12_feed_81 (by decide) ?_
        refine q_iadd dX12_feed_82 ?_
        refine q_putX (F := upd (σ 168) 4 ((σ 168 4) + 1)) dX12_feed_83 fF_RX12_129 fP_12_4 fl_168_4 rfl ?_
        refine q_iinc (L' := [some (.ref (g.2.1 168)), some (.int x1), some (.int x2), some (.int x3), some (.int (x4 + 1)), some (.int x3)]) dX12_feed_86 rfl (by decide) rfl rfl ?_
        refine q_goto (tgt := 19) dX12_feed_89 (by decide) ?_
        exact q_wk (by simp [vt_le]) h
      · have h := h.2 c3
        refine q_iload_n dX12_feed_43 rfl ?_
        refine q_goto (tgt := 48) dX12_feed_44 (by decide) ?_
        refine q_istore (L' := [some (.ref (g.2.1 168)), some (.int x1), some (.int x2), some (.int x3), some (.int x4), some (.int x2)]) dX12_feed_48 (by decide) rfl rfl ?_
        refine q_aload_n dX12_feed_50 rfl ?_
        refine q_getR dX12_feed_51 fF_RX12_16 fl_168_3 ?_
        refine q_aload_n dX12_feed_54 rfl ?_
        refine q_getX (x := (σ 168 4)) dX12_feed_55 fF_RX12_129 fl_168_4 rfl ?_
        refine q_iload dX12_feed_58 rfl ?_
        refine q_bipush (v := 24) dX12_feed_60 (by decide) ?_
        refine q_bipush (v := 8) dX12_feed_62 (by decide) ?_
        refine q_iload dX12_feed_64 rfl ?_
        refine q_iconst (v := 4) dX12_feed_66 (by decide) ?_
        refine q_irem dX12_feed_67 (by decide) ?_
        refine q_imul dX12_feed_68 ?_
        refine q_isub dX12_feed_69 ?_
        refine q_ishr dX12_feed_70 ?_
        refine q_sipush (v := 255) dX12_feed_71 (by decide) ?_
        refine q_iand dX12_feed_74 ?_
        obtain ⟨hi5, h⟩ := h
        refine q_iastX (F := upd (σ 171) ((σ 168 4).toNatClampNeg) ((x2 >>> ((24 - (8 * (x4 - x4 / 4 * 4))) &&& 31)) &&& 255)) dX12_feed_75 ar_171 hi5 rfl ?_
        refine q_aload_n dX12_feed_76 rfl ?_
        refine q_dup dX12_feed_77 rfl ?_
        refine q_getX (x := (σ 168 4)) dX12_feed_78 fF_RX12_129 fl_168_4 rfl ?_
        refine q_iconst (v := 1) dX12_feed_81 (by decide) ?_
        refine q_iadd dX12_feed_82 ?_
        refine q_putX (F := upd (σ 168) 4 ((σ 168 4) + 1)) dX12_feed_83 fF_RX12_129 fP_12_4 fl_168_4 rfl ?_
        refine q_iinc (L' := [some (.ref (g.2.1 168)), some (.int x1), some (.int x2), some (.int x3), some (.int (x4 + 1)), some (.int x2)]) dX12_feed_86 rfl (by decide) rfl rfl ?_
        refine q_goto (tgt := 19) dX12_feed_89 (by decide) ?_
        exact q_wk (by simp [vt_le]) h
    · have h := h.2 c2
      refine q_iload_n dX12_feed_32 rfl ?_
      refine q_goto (tgt := 48) dX12_feed_33 (by decide) ?_
      refine q_istore (L' := [some (.ref (g.2.1 168)), some (.int x1), some (.int x2), some (.int x3), some (.int x4), some (.int x1)]) dX12_feed_48 (by decide) rfl rfl ?_
      refine q_aload_n dX12_feed_50 rfl ?_
      refine q_getR dX12_feed_51 fF_RX12_16 fl_168_3 ?_
      refine q_aload_n dX12_feed_54 rfl ?_
      refine q_getX (x := (σ 168 4)) dX12_feed_55 fF_RX12_129 fl_168_4 rfl ?_
      refine q_iload dX12_feed_58 rfl ?_
      refine q_bipush (v := 24) dX12_feed_60 (by decide) ?_
      refine q_bipush (v := 8) dX12_feed_62 (by decide) ?_
      refine q_iload dX12_feed_64 rfl ?_
      refine q_iconst (v := 4) dX12_feed_66 (by decide) ?_
      refine q_irem dX12_feed_67 (by decide) ?_
      refine q_imul dX12_feed_68 ?_
      refine q_isub dX12_feed_69 ?_
      refine q_ishr dX12_feed_70 ?_
      refine q_sipush (v := 255) dX12_feed_71 (by decide) ?_
      refine q_iand dX12_feed_74 ?_
      obtain ⟨hi6, h⟩ := h
      refine q_iastX (F := upd (σ 171) ((σ 168 4).toNatClampNeg) ((x1 >>> ((24 - (8 * (x4 - x4 / 4 * 4))) &&& 31)) &&& 255)) dX12_feed_75 ar_171 hi6 rfl ?_
      refine q_aload_n dX12_feed_76 rfl ?_
      refine q_dup dX12_feed_77 rfl ?_
      refine q_getX (x := (σ 168 4)) dX12_feed_78 fF_RX12_129 fl_168_4 rfl ?_
      refine q_iconst (v := 1) dX12_feed_81 (by decide) ?_
      refine q_iadd dX12_feed_82 ?_
      refine q_putX (F := upd (σ 168) 4 ((σ 168 4) + 1)) dX12_feed_83 fF_RX12_129 fP_12_4 fl_168_4 rfl ?_
      refine q_iinc (L' := [some (.ref (g.2.1 168)), some (.int x1), some (.int x2), some (.int x3), some (.int (x4 + 1)), some (.int x1)]) dX12_feed_86 rfl (by decide) rfl rfl ?_
      refine q_goto (tgt := 19) dX12_feed_89 (by decide) ?_
      exact q_wk (by simp [vt_le]) h

theorem s_X12_trim_0 (g : vt_GT) (σ : vt_Sg) (P : Option Value → vt_Sg → Prop) (p1 : Int32)
  (h : ((¬ p1 < (0 : Int32) ∧ ¬ (σ 168 4) < p1) → P (some (.int p1)) (su σ 168 (upd (σ 168) 4 p1))) ∧ (¬ (¬ p1 < (0 : Int32) ∧ ¬ (σ 168 4) < p1) → P (some (.int (-1000000001))) σ)) :
  TT g (vt_R 1) 0 0 D_X12_trim none 0 [some (.ref (g.2.1 168)), some (.int p1)] [] σ P := by
  refine q_iload_n dX12_trim_0 rfl ?_
  refine q_iconst (v := 0) dX12_trim_1 (by decide) ?_
  refine q_aload_n dX12_trim_2 rfl ?_
  refine q_getX (x := (σ 168 4)) dX12_trim_3 fF_RX12_129 fl_168_4 rfl ?_
  refine q_cSb (C := ¬ p1 < (0 : Int32) ∧ ¬ (σ 168 4) < p1) (d' := 0) [.int p1, .int 0, .int (σ 168 4)] [] dX12_trim_6 ok_X12_within mk_RX12_49 rfl (Nat.le_of_ble_eq_true rfl) (by first | decide | omega) (fun Φ h9 => c_X12_within (σ := σ) Φ h9) (fun c1 => ?_) (fun c1 => ?_)
  · have h := h.1 c1
    refine q_if_ne (tgt := 15) dX12_trim_9 (by decide) (fun _ => ?_) (fun c => absurd c (by decide))
    refine q_aload_n dX12_trim_15 rfl ?_
    refine q_iload_n dX12_trim_16 rfl ?_
    refine q_putX (F := upd (σ 168) 4 p1) dX12_trim_17 fF_RX12_129 fP_12_4 fl_168_4 rfl ?_
    refine q_iload_n dX12_trim_20 rfl ?_
    exact q_iret .int rfl rfl dX12_trim_21 h
  · have h := h.2 c1
    refine q_if_ne (tgt := 15) dX12_trim_9 (by decide) (fun c => absurd rfl c) (fun _ => ?_)
    refine q_ldc dX12_trim_12 ct_RX12_57 ?_
    exact q_iret .int rfl rfl dX12_trim_14 h

theorem s_X12_next_0 (g : vt_GT) (σ : vt_Sg) (P : Option Value → vt_Sg → Prop) 
  (h : ((σ 168 12) = 1 → TT g (vt_R 2) 0 0 D_X12_next none 35 [some (.ref (g.2.1 168)), some (.int 1), some (.int (σ 168 11))] [] (su σ 168 (upd (σ 168) 10 (σ 168 11))) P) ∧ (¬ (σ 168 12) = 1 → (¬ (σ 168 12) = 2 → TT g (vt_R 2) 0 0 D_X12_next none 35 [some (.ref (g.2.1 168)), some (.int 0), some (.int (σ 168 11))] [] (su σ 168 (upd (σ 168) 10 (σ 168 11))) P) ∧ ((σ 168 12) = 2 → TT g (vt_R 2) 0 0 D_X12_next none 35 [some (.ref (g.2.1 168)), some (.int 1), some (.int (σ 168 11))] [] (su σ 168 (upd (σ 168) 10 (σ 168 11))) P))) :
  TT g (vt_R 2) 0 0 D_X12_next none 0 [some (.ref (g.2.1 168)), none, none] [] σ P := by
  refine q_aload_n dX12_next_0 rfl ?_
  refine q_getX (x := (σ 168 12)) dX12_next_1 fF_RX12_133 fl_168_12 rfl ?_
  refine q_iconst (v := 1) dX12_next_4 (by decide) ?_
  refine q_icmp_eq (tgt := 16) dX12_next_5 (by decide) (fun c1 => ?_) (fun c1 => ?_)
  · have h := h.1 c1
    refine q_iconst (v := 1) dX12_next_16 (by decide) ?_
    refine q_goto (tgt := 21) dX12_next_17 (by decide) ?_
    refine q_istore_n (L' := [some (.ref (g.2.1 168)), some (.int 1), none]) dX12_next_21 (by decide) rfl rfl ?_
    refine q_aload_n dX12_next_22 rfl ?_
    refine q_getX (x := (σ 168 11)) dX12_next_23 fF_RX12_136 fl_168_11 rfl ?_
    refine q_istore_n (L' := [some (.ref (g.2.1 168)), some (.int 1), some (.int (σ 168 11))]) dX12_next_26 (by decide) rfl rfl ?_
    refine q_aload_n dX12_next_27 rfl ?_
    refine q_aload_n dX12_next_28 rfl ?_
    refine q_getX (x := (σ 168 11)) dX12_next_29 fF_RX12_136 fl_168_11 rfl ?_
    refine q_putX (F := upd (σ 168) 10 (σ 168 11)) dX12_next_32 fF_RX12_139 fP_12_10 fl_168_10 rfl ?_
    exact h
  · have h := h.2 c1
    refine q_aload_n dX12_next_8 rfl ?_
    refine q_getX (x := (σ 168 12)) dX12_next_9 fF_RX12_133 fl_168_12 rfl ?_
    refine q_iconst (v := 2) dX12_next_12 (by decide) ?_
    refine q_icmp_ne (tgt := 20) dX12_next_13 (by decide) (fun c2 => ?_) (fun c2 => ?_)
    · have h := h.1 c2
      refine q_iconst (v := 0) dX12_next_20 (by decide) ?_
      refine q_istore_n (L' := [some (.ref (g.2.1 168)), some (.int 0), none]) dX12_next_21 (by decide) rfl rfl ?_
      refine q_aload_n dX12_next_22 rfl ?_
      refine q_getX (x := (σ 168 11)) dX12_next_23 fF_RX12_136 fl_168_11 rfl ?_
      refine q_istore_n (L' := [some (.ref (g.2.1 168)), some (.int 0), some (.int (σ 168 11))]) dX12_next_26 (by decide) rfl rfl ?_
      refine q_aload_n dX12_next_27 rfl ?_
      refine q_aload_n dX12_next_28 rfl ?_
      refine q_getX (x := (σ 168 11)) dX12_next_29 fF_RX12_136 fl_168_11 rfl ?_
      refine q_putX (F := upd (σ 168) 10 (σ 168 11)) dX12_next_32 fF_RX12_139 fP_12_10 fl_168_10 rfl ?_
      exact h
    · have h := h.2 c2
      refine q_iconst (v := 1) dX12_next_16 (by decide) ?_
      refine q_goto (tgt := 21) dX12_next_17 (by decide) ?_
      refine q_istore_n (L' := [some (.ref (g.2.1 168)), some (.int 1), none]) dX12_next_21 (by decide) rfl rfl ?_
      refine q_aload_n dX12_next_22 rfl ?_
      refine q_getX (x := (σ 168 11)) dX12_next_23 fF_RX12_136 fl_168_11 rfl ?_
      refine q_istore_n (L' := [some (.ref (g.2.1 168)), some (.int 1), some (.int (σ 168 11))]) dX12_next_26 (by decide) rfl rfl ?_
      refine q_aload_n dX12_next_27 rfl ?_
      refine q_aload_n dX12_next_28 rfl ?_
      refine q_getX (x := (σ 168 11)) dX12_next_29 fF_RX12_136 fl_168_11 rfl ?_
      refine q_putX (F := upd (σ 168) 10 (σ 168 11)) dX12_next_32 fF_RX12_139 fP_12_10 fl_168_10 rfl ?_
      exact h

theorem s_X12_next_35 (g : vt_GT) (σ : vt_Sg) (P : Option Value → vt_Sg → Prop) (x1 : Int32) (x2 : Int32)
  (h : ((σ 168 4) ≤ (σ 168 10) → (¬ (σ 168 10) = (σ 168 4) → ((σ 168 10) < (σ 168 4) → vp_in (σ 168 10) 132) ∧ ((((σ 168 10) < (σ 168 4) ∧ ¬ (σ 171 (σ 168 10).toNatClampNeg) < 97 ∧ ¬ 122 < (σ 171 (σ 168 10).toNatClampNeg)) → TT g (vt_R 2) 0 0 D_X12_next none 143 [some (.ref (g.2.1 168)), some (.int x1), some (.int x2)] [] (su (su (su σ 168 (upd (σ 168) 11 (σ 168 10))) 168 (upd (upd (σ 168) 11 (σ 168 10)) 12 1)) 168 (upd (upd (upd (σ 168) 11 (σ 168 10)) 12 1) 11 ((σ 168 10) + 1))) P) ∧ (¬ ((σ 168 10) < (σ 168 4) ∧ ¬ (σ 171 (σ 168 10).toNatClampNeg) < 97 ∧ ¬ 122 < (σ 171 (σ 168 10).toNatClampNeg)) → (((σ 168 10) < (σ 168 4) ∧ ¬ (σ 171 (σ 168 10).toNatClampNeg) < 48 ∧ ¬ 57 < (σ 171 (σ 168 10).toNatClampNeg)) → TT g (vt_R 2) 0 0 D_X12_next none 143 [some (.ref (g.2.1 168)), some (.int x1), some (.int x2)] [] (su (su (su σ 168 (upd (σ 168) 11 (σ 168 10))) 168 (upd (upd (σ 168) 11 (σ 168 10)) 12 2)) 168 (upd (upd (upd (σ 168) 11 (σ 168 10)) 12 2) 11 ((σ 168 10) + 1))) P) ∧ (¬ ((σ 168 10) < (σ 168 4) ∧ ¬ (σ 171 (σ 168 10).toNatClampNeg) < 48 ∧ ¬ 57 < (σ 171 (σ 168 10).toNatClampNeg)) → TT g (vt_R 2) 0 0 D_X12_next none 143 [some (.ref (g.2.1 168)), some (.int x1), some (.int x2)] [] (su (su (su σ 168 (upd (σ 168) 11 (σ 168 10))) 168 (upd (upd (σ 168) 11 (σ 168 10)) 12 3)) 168 (upd (upd (upd (σ 168) 11 (σ 168 10)) 12 3) 11 ((σ 168 10) + 1))) P)))) ∧ ((σ 168 10) = (σ 168 4) → P none (su (su σ 168 (upd (σ 168) 11 (σ 168 10))) 168 (upd (upd (σ 168) 11 (σ 168 10)) 12 0)))) ∧ (¬ (σ 168 4) ≤ (σ 168 10) → vp_in (σ 168 10) 132 ∧ ((¬ (σ 171 (σ 168 10).toNatClampNeg) = 32 → (¬ (σ 168 10) = (σ 168 4) → ((σ 168 10) < (σ 168 4) → vp_in (σ 168 10) 132) ∧ ((((σ 168 10) < (σ 168 4) ∧ ¬ (σ 171 (σ 168 10).toNatClampNeg) < 97 ∧ ¬ 122 < (σ 171 (σ 168 10).toNatClampNeg)) → TT g (vt_R 2) 0 0 D_X12_next none 143 [some (.ref (g.2.1 168)), some (.int x1), some (.int x2)] [] (su (su (su σ 168 (upd (σ 168) 11 (σ 168 10))) 168 (upd (upd (σ 168) 11 (σ 168 10)) 12 1)) 168 (upd (upd (upd (σ 168) 11 (σ 168 10)) 12 1) 11 ((σ 168 10) + 1))) P) ∧ (¬ ((σ 168 10) < (σ 168 4) ∧ ¬ (σ 171 (σ 168 10).toNatClampNeg) < 97 ∧ ¬ 122 < (σ 171 (σ 168 10).toNatClampNeg)) → (((σ 168 10) < (σ 168 4) ∧ ¬ (σ 171 (σ 168 10).toNatClampNeg) < 48 ∧ ¬ 57 < (σ 171 (σ 168 10).toNatClampNeg)) → TT g (vt_R 2) 0 0 D_X12_next none 143 [some (.ref (g.2.1 168)), some (.int x1), some (.int x2)] [] (su (su (su σ 168 (upd (σ 168) 11 (σ 168 10))) 168 (upd (upd (σ 168) 11 (σ 168 10)) 12 2)) 168 (upd (upd (upd (σ 168) 11 (σ 168 10)) 12 2) 11 ((σ 168 10) + 1))) P) ∧ (¬ ((σ 168 10) < (σ 168 4) ∧ ¬ (σ 171 (σ 168 10).toNatClampNeg) < 48 ∧ ¬ 57 < (σ 171 (σ 168 10).toNatClampNeg)) → TT g (vt_R 2) 0 0 D_X12_next none 143 [some (.ref (g.2.1 168)), some (.int x1), some (.int x2)] [] (su (su (su σ 168 (upd (σ 168) 11 (σ 168 10))) 168 (upd (upd (σ 168) 11 (σ 168 10)) 12 3)) 168 (upd (upd (upd (σ 168) 11 (σ 168 10)) 12 3) 11 ((σ 168 10) + 1))) P)))) ∧ ((σ 168 10) = (σ 168 4) → P none (su (su σ 168 (upd (σ 168) 11 (σ 168 10))) 168 (upd (upd (σ 168) 11 (σ 168 10)) 12 0)))) ∧ ((σ 171 (σ 168 10).toNatClampNeg) = 32 → TT g (vt_R 2) 0 0 D_X12_next none 35 [some (.ref (g.2.1 168)), some (.int x1), some (.int x2)] [] (su σ 168 (upd (σ 168) 10 ((σ 168 10) + 1))) P)))) :
  TT g (vt_R 2) 0 0 D_X12_next none 35 [some (.ref (g.2.1 168)), some (.int x1), some (.int x2)] [] σ P := by
  refine q_aload_n dX12_next_35 rfl ?_
  refine q_getX (x := (σ 168 10)) dX12_next_36 fF_RX12_139 fl_168_10 rfl ?_
  refine q_aload_n dX12_next_39 rfl ?_
  refine q_getX (x := (σ 168 4)) dX12_next_40 fF_RX12_129 fl_168_4 rfl ?_
  refine q_icmp_ge (tgt := 73) dX12_next_43 (by decide) (fun c1 => ?_) (fun c1 => ?_)
  · have h := h.1 c1
    refine q_aload_n dX12_next_73 rfl ?_
    refine q_aload_n dX12_next_74 rfl ?_
    refine q_getX (x := (σ 168 10)) dX12_next_75 fF_RX12_139 fl_168_10 rfl ?_
    refine q_putX (F := upd (σ 168) 11 (σ 168 10)) dX12_next_78 fF_RX12_136 fP_12_11 fl_168_11 rfl ?_
    refine q_aload_n dX12_next_81 rfl ?_
    refine q_getX (x := (σ 168 10)) dX12_next_82 fF_RX12_139 fl_168_10 rfl ?_
    refine q_aload_n dX12_next_85 rfl ?_
    refine q_getX (x := (σ 168 4)) dX12_next_86 fF_RX12_129 fl_168_4 rfl ?_
    refine q_icmp_ne (tgt := 98) dX12_next_89 (by decide) (fun c2 => ?_) (fun c2 => ?_)
    · have h := h.1 c2
      refine q_aload_n dX12_next_98 rfl ?_
      refine q_aload_n dX12_next_99 rfl ?_
      refine q_aload_n dX12_next_100 rfl ?_
      refine q_getX (x := (σ 168 10)) dX12_next_101 fF_RX12_139 fl_168_10 rfl ?_
      obtain ⟨hp3, h⟩ := h
      refine q_cVb (C := (σ 168 10) < (σ 168 4) ∧ ¬ (σ 171 (σ 168 10).toNatClampNeg) < 97 ∧ ¬ 122 < (σ 171 (σ 168 10).toNatClampNeg)) (d' := 1) [.int (σ 168 10)] [.ref (g.2.1 168)] dX12_next_104 ok_X12_isLetter mk_RX12_142 rc_168 rfl (Nat.le_of_ble_eq_true rfl) (by first | decide | omega) (fun Φ h9 => c_X12_isLetter (σ := su σ 168 (upd (σ 168) 11 (σ 168 10))) hp3 Φ h9) (fun c4 => ?_) (fun c4 => ?_)
      · have h := h.1 c4
        refine q_if_eq (tgt := 114) dX12_next_107 (by decide) (fun c => absurd c (by decide)) (fun _ => ?_)
        refine q_iconst (v := 1) dX12_next_110 (by decide) ?_
        refine q_goto (tgt := 130) dX12_next_111 (by decide) ?_
        refine q_putX (F := upd (upd (σ 168) 11 (σ 168 10)) 12 1) dX12_next_130 fF_RX12_133 fP_12_12 fl_168_12 rfl ?_
        refine q_aload_n dX12_next_133 rfl ?_
        refine q_dup dX12_next_134 rfl ?_
        refine q_getX (x := (σ 168 10)) dX12_next_135 fF_RX12_136 fl_168_11 rfl ?_
        refine q_iconst (v := 1) dX12_next_138 (by decide) ?_
        refine q_iadd dX12_next_139 ?_
        refine q_putX (F := upd (upd (upd (σ 168) 11 (σ 168 10)) 12 1) 11 ((σ 168 10) + 1)) dX12_next_140 fF_RX12_136 fP_12_11 fl_168_11 rfl ?_
        exact h
      · have h := h.2 c4
        refine q_if_eq (tgt := 114) dX12_next_107 (by decide) (fun _ => ?_) (fun c => absurd (by decide) c)
        refine q_aload_n dX12_next_114 rfl ?_
        refine q_aload_n dX12_next_115 rfl ?_
        refine q_getX (x := (σ 168 10)) dX12_next_116 fF_RX12_139 fl_168_10 rfl ?_
        refine q_cVb (C := (σ 168 10) < (σ 168 4) ∧ ¬ (σ 171 (σ 168 10).toNatClampNeg) < 48 ∧ ¬ 57 < (σ 171 (σ 168 10).toNatClampNeg)) (d' := 1) [.int (σ 168 10)] [.ref (g.2.1 168)] dX12_next_119 ok_X12_isDigit mk_RX12_145 rc_168 rfl (Nat.le_of_ble_eq_true rfl) (by first | decide | omega) (fun Φ h9 => c_X12_isDigit (σ := su σ 168 (upd (σ 168) 11 (σ 168 10))) hp3 Φ h9) (fun c5 => ?_) (fun c5 => ?_)
        · have h := h.1 c5
          refine q_if_eq (tgt := 129) dX12_next_122 (by decide) (fun c => absurd c (by decide)) (fun _ => ?_)
          refine q_iconst (v := 2) dX12_next_125 (by decide) ?_
          refine q_goto (tgt := 130) dX12_next_126 (by decide) ?_
          refine q_putX (F := upd (upd (σ 168) 11 (σ 168 10)) 12 2) dX12_next_130 fF_RX12_133 fP_12_12 fl_168_12 rfl ?_
          refine q_aload_n dX12_next_133 rfl ?_
          refine q_dup dX12_next_134 rfl ?_
          refine q_getX (x := (σ 168 10)) dX12_next_135 fF_RX12_136 fl_168_11 rfl ?_
          refine q_iconst (v := 1) dX12_next_138 (by decide) ?_
          refine q_iadd dX12_next_139 ?_
          refine q_putX (F := upd (upd (upd (σ 168) 11 (σ 168 10)) 12 2) 11 ((σ 168 10) + 1)) dX12_next_140 fF_RX12_136 fP_12_11 fl_168_11 rfl ?_
          exact h
        · have h := h.2 c5
          refine q_if_eq (tgt := 129) dX12_next_122 (by decide) (fun _ => ?_) (fun c => absurd (by decide) c)
          refine q_iconst (v := 3) dX12_next_129 (by decide) ?_
          refine q_putX (F := upd (upd (σ 168) 11 (σ 168 10)) 12 3) dX12_next_130 fF_RX12_133 fP_12_12 fl_168_12 rfl ?_
          refine q_aload_n dX12_next_133 rfl ?_
          refine q_dup dX12_next_134 rfl ?_
          refine q_getX (x := (σ 168 10)) dX12_next_135 fF_RX12_136 fl_168_11 rfl ?_
          refine q_iconst (v := 1) dX12_next_138 (by decide) ?_
          refine q_iadd dX12_next_139 ?_
          refine q_putX (F := upd (upd (upd (σ 168) 11 (σ 168 10)) 12 3) 11 ((σ 168 10) + 1)) dX12_next_140 fF_RX12_136 fP_12_11 fl_168_11 rfl ?_
          exact h
    · have h := h.2 c2
      refine q_aload_n dX12_next_92 rfl ?_
      refine q_iconst (v := 0) dX12_next_93 (by decide) ?_
      refine q_putX (F := upd (upd (σ 168) 11 (σ 168 10)) 12 0) dX12_next_94 fF_RX12_133 fP_12_12 fl_168_12 rfl ?_
      exact q_vret rfl dX12_next_97 h
  · have h := h.2 c1
    refine q_aload_n dX12_next_46 rfl ?_
    refine q_getR dX12_next_47 fF_RX12_16 fl_168_3 ?_
    refine q_aload_n dX12_next_50 rfl ?_
    refine q_getX (x := (σ 168 10)) dX12_next_51 fF_RX12_139 fl_168_10 rfl ?_
    obtain ⟨hi6, h⟩ := h
    refine q_ialdX (v := (σ 171 (σ 168 10).toNatClampNeg)) dX12_next_54 ar_171 hi6 rfl ?_
    refine q_bipush (v := 32) dX12_next_55 (by decide) ?_
    refine q_icmp_ne (tgt := 73) dX12_next_57 (by decide) (fun c7 => ?_) (fun c7 => ?_)
    · have h := h.1 c7
      refine q_aload_n dX12_next_73 rfl ?_
      refine q_aload_n dX12_next_74 rfl ?_
      refine q_getX (x := (σ 168 10)) dX12_next_75 fF_RX12_139 fl_168_10 rfl ?_
      refine q_putX (F := upd (σ 168) 11 (σ 168 10)) dX12_next_78 fF_RX12_136 fP_12_11 fl_168_11 rfl ?_
      refine q_aload_n dX12_next_81 rfl ?_
      refine q_getX (x := (σ 168 10)) dX12_next_82 fF_RX12_139 fl_168_10 rfl ?_
      refine q_aload_n dX12_next_85 rfl ?_
      refine q_getX (x := (σ 168 4)) dX12_next_86 fF_RX12_129 fl_168_4 rfl ?_
      refine q_icmp_ne (tgt := 98) dX12_next_89 (by decide) (fun c8 => ?_) (fun c8 => ?_)
      · have h := h.1 c8
        refine q_aload_n dX12_next_98 rfl ?_
        refine q_aload_n dX12_next_99 rfl ?_
        refine q_aload_n dX12_next_100 rfl ?_
        refine q_getX (x := (σ 168 10)) dX12_next_101 fF_RX12_139 fl_168_10 rfl ?_
        obtain ⟨hp9, h⟩ := h
        refine q_cVb (C := (σ 168 10) < (σ 168 4) ∧ ¬ (σ 171 (σ 168 10).toNatClampNeg) < 97 ∧ ¬ 122 < (σ 171 (σ 168 10).toNatClampNeg)) (d' := 1) [.int (σ 168 10)] [.ref (g.2.1 168)] dX12_next_104 ok_X12_isLetter mk_RX12_142 rc_168 rfl (Nat.le_of_ble_eq_true rfl) (by first | decide | omega) (fun Φ h9 => c_X12_isLetter (σ := su σ 168 (upd (σ 168) 11 (σ 168 10))) hp9 Φ h9) (fun c10 => ?_) (fun c10 => ?_)
        · have h := h.1 c10
          refine q_if_eq (tgt := 114) dX12_next_107 (by decide) (fun c => absurd c (by decide)) (fun _ => ?_)
          refine q_iconst (v := 1) dX12_next_110 (by decide) ?_
          refine q_goto (tgt := 130) dX12_next_111 (by decide) ?_
          refine q_putX (F := upd (upd (σ 168) 11 (σ 168 10)) 12 1) dX12_next_130 fF_RX12_133 fP_12_12 fl_168_12 rfl ?_
          refine q_aload_n dX12_next_133 rfl ?_
          refine q_dup dX12_next_134 rfl ?_
          refine q_getX (x := (σ 168 10)) dX12_next_135 fF_RX12_136 fl_168_11 rfl ?_
          refine q_iconst (v := 1) dX12_next_138 (by decide) ?_
          refine q_iadd dX12_next_139 ?_
          refine q_putX (F := upd (upd (upd (σ 168) 11 (σ 168 10)) 12 1) 11 ((σ 168 10) + 1)) dX12_next_140 fF_RX12_136 fP_12_11 fl_168_11 rfl ?_
          exact h
        · have h := h.2 c10
          refine q_if_eq (tgt := 114) dX12_next_107 (by decide) (fun _ => ?_) (fun c => absurd (by decide) c)
          refine q_aload_n dX12_next_114 rfl ?_
          refine q_aload_n dX12_next_115 rfl ?_
          refine q_getX (x := (σ 168 10)) dX12_next_116 fF_RX12_139 fl_168_10 rfl ?_
          refine q_cVb (C := (σ 168 10) < (σ 168 4) ∧ ¬ (σ 171 (σ 168 10).toNatClampNeg) < 48 ∧ ¬ 57 < (σ 171 (σ 168 10).toNatClampNeg)) (d' := 1) [.int (σ 168 10)] [.ref (g.2.1 168)] dX12_next_119 ok_X12_isDigit mk_RX12_145 rc_168 rfl (Nat.le_of_ble_eq_true rfl) (by first | decide | omega) (fun Φ h9 => c_X12_isDigit (σ := su σ 168 (upd (σ 168) 11 (σ 168 10))) hp9 Φ h9) (fun c11 => ?_) (fun c11 => ?_)
          · have h := h.1 c11
            refine q_if_eq (tgt := 129) dX12_next_122 (by decide) (fun c => absurd c (by decide)) (fun _ => ?_)
            refine q_iconst (v := 2) dX12_next_125 (by decide) ?_
            refine q_goto (tgt := 130) dX12_next_126 (by decide) ?_
            refine q_putX (F := upd (upd (σ 168) 11 (σ 168 10)) 12 2) dX12_next_130 fF_RX12_133 fP_12_12 fl_168_12 rfl ?_
            refine q_aload_n dX12_next_133 rfl ?_
            refine q_dup dX12_next_134 rfl ?_
            refine q_getX (x := (σ 168 10)) dX12_next_135 fF_RX12_136 fl_168_11 rfl ?_
            refine q_iconst (v := 1) dX12_next_138 (by decide) ?_
            refine q_iadd dX12_next_139 ?_
            refine q_putX (F := upd (upd (upd (σ 168) 11 (σ 168 10)) 12 2) 11 ((σ 168 10) + 1)) dX12_next_140 fF_RX12_136 fP_12_11 fl_168_11 rfl ?_
            exact h
          · have h := h.2 c11
            refine q_if_eq (tgt := 129) dX12_next_122 (by decide) (fun _ => ?_) (fun c => absurd (by decide) c)
            refine q_iconst (v := 3) dX12_next_129 (by decide) ?_
            refine q_putX (F := upd (upd (σ 168) 11 (σ 168 10)) 12 3) dX12_next_130 fF_RX12_133 fP_12_12 fl_168_12 rfl ?_
            refine q_aload_n dX12_next_133 rfl ?_
            refine q_dup dX12_next_134 rfl ?_
            refine q_getX (x := (σ 168 10)) dX12_next_135 fF_RX12_136 fl_168_11 rfl ?_
            refine q_iconst (v := 1) dX12_next_138 (by decide) ?_
            refine q_iadd dX12_next_139 ?_
            refine q_putX (F := upd (upd (upd (σ 168) 11 (σ 168 10)) 12 3) 11 ((σ 168 10) + 1)) dX12_next_140 fF_RX12_136 fP_12_11 fl_168_11 rfl ?_
            exact h
      · have h := h.2 c8
        refine q_aload_n dX12_next_92 rfl ?_
        refine q_iconst (v := 0) dX12_next_93 (by decide) ?_
        refine q_putX (F := upd (upd (σ 168) 11 (σ 168 10)) 12 0) dX12_next_94 fF_RX12_133 fP_12_12 fl_168_12 rfl ?_
        exact q_vret rfl dX12_next_97 h
    · have h := h.2 c7
      refine q_aload_n dX12_next_60 rfl ?_
      refine q_dup dX12_next_61 rfl ?_
      refine q_getX (x := (σ 168 10)) dX12_next_62 fF_RX12_139 fl_168_10 rfl ?_
      refine q_iconst (v := 1) dX12_next_65 (by decide) ?_
      refine q_iadd dX12_next_66 ?_
      refine q_putX (F := upd (σ 168) 10 ((σ 168 10) + 1)) dX12_next_67 fF_RX12_139 fP_12_10 fl_168_10 rfl ?_
      refine q_goto (tgt := 35) dX12_next_70 (by decide) ?_
      exact h

theorem s_X12_next_143 (g : vt_GT) (σ : vt_Sg) (P : Option Value → vt_Sg → Prop) (x1 : Int32) (x2 : Int32)
  (h : (¬ (σ 168 12) = 1 → (¬ (σ 168 12) = 2 → ((σ 168 12) = 3 → P none σ) ∧ (¬ (σ 168 12) = 3 → (x1 = 0 → P none σ) ∧ (¬ x1 = 0 → ((σ 168 10) = x2 → P none (su σ 168 (upd (σ 168) 12 4))) ∧ (¬ (σ 168 10) = x2 → P none σ)))) ∧ ((σ 168 12) = 2 → ((σ 168 11) < (σ 168 4) → vp_in (σ 168 11) 132) ∧ ((((σ 168 11) < (σ 168 4) ∧ ¬ (σ 171 (σ 168 11).toNatClampNeg) < 48 ∧ ¬ 57 < (σ 171 (σ 168 11).toNatClampNeg)) → TT g (vt_R 2) 0 0 D_X12_next none 143 [some (.ref (g.2.1 168)), some (.int x1), some (.int x2)] [] (su σ 168 (upd (σ 168) 11 ((σ 168 11) + 1))) P) ∧ (¬ ((σ 168 11) < (σ 168 4) ∧ ¬ (σ 171 (σ 168 11).toNatClampNeg) < 48 ∧ ¬ 57 < (σ 171 (σ 168 11).toNatClampNeg)) → ((σ 168 12) = 3 → (((σ 168 11) - (σ 168 10)) ≤ 5 → P none σ) ∧ (¬ ((σ 168 11) - (σ 168 10)) ≤ 5 → P none (su σ 168 (upd (σ 168) 12 4)))) ∧ (¬ (σ 168 12) = 3 → (x1 = 0 → (((σ 168 11) - (σ 168 10)) ≤ 5 → P none σ) ∧ (¬ ((σ 168 11) - (σ 168 10)) ≤ 5 → P none (su σ 168 (upd (σ 168) 12 4)))) ∧ (¬ x1 = 0 → ((σ 168 10) = x2 → P none (su σ 168 (upd (σ 168) 12 4))) ∧ (¬ (σ 168 10) = x2 → (((σ 168 11) - (σ 168 10)) ≤ 5 → P none σ) ∧ (¬ ((σ 168 11) - (σ 168 10)) ≤ 5 → P none (su σ 168 (upd (σ 168) 12 4)))))))))) ∧ ((σ 168 12) = 1 → ((σ 168 11) < (σ 168 4) → vp_in (σ 168 11) 132) ∧ ((((σ 168 11) < (σ 168 4) ∧ ¬ (σ 171 (σ 168 11).toNatClampNeg) < 97 ∧ ¬ 122 < (σ 171 (σ 168 11).toNatClampNeg)) → TT g (vt_R 2) 0 0 D_X12_next none 143 [some (.ref (g.2.1 168)), some (.int x1), some (.int x2)] [] (su σ 168 (upd (σ 168) 11 ((σ 168 11) + 1))) P) ∧ (¬ ((σ 168 11) < (σ 168 4) ∧ ¬ (σ 171 (σ 168 11).toNatClampNeg) < 97 ∧ ¬ 122 < (σ 171 (σ 168 11).toNatClampNeg)) → (¬ (σ 168 12) = 2 → ((σ 168 12) = 3 → P none σ) ∧ (¬ (σ 168 12) = 3 → (x1 = 0 → P none σ) ∧ (¬ x1 = 0 → ((σ 168 10) = x2 → P none (su σ 168 (upd (σ 168) 12 4))) ∧ (¬ (σ 168 10) = x2 → P none σ)))) ∧ ((σ 168 12) = 2 → (((σ 168 11) < (σ 168 4) ∧ ¬ (σ 171 (σ 168 11).toNatClampNeg) < 48 ∧ ¬ 57 < (σ 171 (σ 168 11).toNatClampNeg)) → TT g (vt_R 2) 0 0 D_X12_next none 143 [some (.ref (g.2.1 168)), some (.int x1), some (.int x2)] [] (su σ 168 (upd (σ 168) 11 ((σ 168 11) + 1))) P) ∧ (¬ ((σ 168 11) < (σ 168 4) ∧ ¬ (σ 171 (σ 168 11).toNatClampNeg) < 48 ∧ ¬ 57 < (σ 171 (σ 168 11).toNatClampNeg)) → ((σ 168 12) = 3 → (((σ 168 11) - (σ 168 10)) ≤ 5 → P none σ) ∧ (¬ ((σ 168 11) - (σ 168 10)) ≤ 5 → P none (su σ 168 (upd (σ 168) 12 4)))) ∧ (¬ (σ 168 12) = 3 → (x1 = 0 → (((σ 168 11) - (σ 168 10)) ≤ 5 → P none σ) ∧ (¬ ((σ 168 11) - (σ 168 10)) ≤ 5 → P none (su σ 168 (upd (σ 168) 12 4)))) ∧ (¬ x1 = 0 → ((σ 168 10) = x2 → P none (su σ 168 (upd (σ 168) 12 4))) ∧ (¬ (σ 168 10) = x2 → (((σ 168 11) - (σ 168 10)) ≤ 5 → P none σ) ∧ (¬ ((σ 168 11) - (σ 168 10)) ≤ 5 → P none (su σ 168 (upd (σ 168) 12 4)))))))))))) :
  TT g (vt_R 2) 0 0 D_X12_next none 143 [some (.ref (g.2.1 168)), some (.int x1), some (.int x2)] [] σ P := by
  refine q_aload_n dX12_next_143 rfl ?_
  refine q_getX (x := (σ 168 12)) dX12_next_144 fF_RX12_133 fl_168_12 rfl ?_
  refine q_iconst (v := 1) dX12_next_147 (by decide) ?_
  refine q_icmp_ne (tgt := 162) dX12_next_148 (by decide) (fun c1 => ?_) (fun c1 => ?_)
  · have h := h.1 c1
    refine q_aload_n dX12_next_162 rfl ?_
    refine q_getX (x := (σ 168 12)) dX12_next_163 fF_RX12_133 fl_168_12 rfl ?_
    refine q_iconst (v := 2) dX12_next_166 (by decide) ?_
    refine q_icmp_ne (tgt := 194) dX12_next_167 (by decide) (fun c2 => ?_) (fun c2 => ?_)
    · have h := h.1 c2
      refine q_aload_n dX12_next_194 rfl ?_
      refine q_getX (x := (σ 168 12)) dX12_next_195 fF_RX12_133 fl_168_12 rfl ?_
      refine q_iconst (v := 3) dX12_next_198 (by decide) ?_
      refine q_icmp_eq (tgt := 214) dX12_next_199 (by decide) (fun c3 => ?_) (fun c3 => ?_)
      · have h := h.1 c3
        refine q_aload_n dX12_next_214 rfl ?_
        refine q_getX (x := (σ 168 12)) dX12_next_215 fF_RX12_133 fl_168_12 rfl ?_
        refine q_iconst (v := 2) dX12_next_218 (by decide) ?_
        refine q_icmp_ne (tgt := 240) dX12_next_219 (by decide) (fun _ => ?_) (fun c => absurd c c2)
        exact q_vret rfl dX12_next_240 h
      · have h := h.2 c3
        refine q_iload_n dX12_next_202 rfl ?_
        refine q_if_eq (tgt := 214) dX12_next_203 (by decide) (fun c4 => ?_) (fun c4 => ?_)
        · have h := h.1 c4
          refine q_aload_n dX12_next_214 rfl ?_
          refine q_getX (x := (σ 168 12)) dX12_next_215 fF_RX12_133 fl_168_12 rfl ?_
          refine q_iconst (v := 2) dX12_next_218 (by decide) ?_
          refine q_icmp_ne (tgt := 240) dX12_next_219 (by decide) (fun _ => ?_) (fun c => absurd c c2)
          exact q_vret rfl dX12_next_240 h
        · have h := h.2 c4
          refine q_aload_n dX12_next_206 rfl ?_
          refine q_getX (x := (σ 168 10)) dX12_next_207 fF_RX12_139 fl_168_10 rfl ?_
          refine q_iload_n dX12_next_210 rfl ?_
          refine q_icmp_eq (tgt := 235) dX12_next_211 (by decide) (fun c5 => ?_) (fun c5 => ?_)
          · have h := h.1 c5
            refine q_aload_n dX12_next_235 rfl ?_
            refine q_iconst (v := 4) dX12_next_236 (by decide) ?_
            refine q_putX (F := upd (σ 168) 12 4) dX12_next_237 fF_RX12_133 fP_12_12 fl_168_12 rfl ?_
            exact q_vret rfl dX12_next_240 h
          · have h := h.2 c5
            refine q_aload_n dX12_next_214 rfl ?_
            refine q_getX (x := (σ 168 12)) dX12_next_215 fF_RX12_133 fl_168_12 rfl ?_
            refine q_iconst (v := 2) dX12_next_218 (by decide) ?_
            refine q_icmp_ne (tgt := 240) dX12_next_219 (by decide) (fun _ => ?_) (fun c => absurd c c2)
            exact q_vret rfl dX12_next_240 h
    · have h := h.2 c2
      refine q_aload_n dX12_next_170 rfl ?_
      refine q_aload_n dX12_next_171 rfl ?_
      refine q_getX (x := (σ 168 11)) dX12_next_172 fF_RX12_136 fl_168_11 rfl ?_
      obtain ⟨hp6, h⟩ := h
      refine q_cVb (C := (σ 168 11) < (σ 168 4) ∧ ¬ (σ 171 (σ 168 11).toNatClampNeg) < 48 ∧ ¬ 57 < (σ 171 (σ 168 11).toNatClampNeg)) (d' := 1) [.int (σ 168 11)] [] dX12_next_175 ok_X12_isDigit mk_RX12_145 rc_168 rfl (Nat.le_of_ble_eq_true rfl) (by first | decide | omega) (fun Φ h9 => c_X12_isDigit (σ := σ) hp6 Φ h9) (fun c7 => ?_) (fun c7 => ?_)
      · have h := h.1 c7
        refine q_if_eq (tgt := 194) dX12_next_178 (by decide) (fun c => absurd c (by decide)) (fun _ => ?_)
        refine q_aload_n dX12_next_181 rfl ?_
        refine q_dup dX12_next_182 rfl ?_
        refine q_getX (x := (σ 168 11)) dX12_next_183 fF_RX12_136 fl_168_11 rfl ?_
        refine q_iconst (v := 1) dX12_next_186 (by decide) ?_
        refine q_iadd dX12_next_187 ?_
        refine q_putX (F := upd (σ 168) 11 ((σ 168 11) + 1)) dX12_next_188 fF_RX12_136 fP_12_11 fl_168_11 rfl ?_
        refine q_goto (tgt := 143) dX12_next_191 (by decide) ?_
        exact h
      · have h := h.2 c7
        refine q_if_eq (tgt := 194) dX12_next_178 (by decide) (fun _ => ?_) (fun c => absurd (by decide) c)
        refine q_aload_n dX12_next_194 rfl ?_
        refine q_getX (x := (σ 168 12)) dX12_next_195 fF_RX12_133 fl_168_12 rfl ?_
        refine q_iconst (v := 3) dX12_next_198 (by decide) ?_
        refine q_icmp_eq (tgt := 214) dX12_next_199 (by decide) (fun c8 => ?_) (fun c8 => ?_)
        · have h := h.1 c8
          refine q_aload_n dX12_next_214 rfl ?_
          refine q_getX (x := (σ 168 12)) dX12_next_215 fF_RX12_133 fl_168_12 rfl ?_
          refine q_iconst (v := 2) dX12_next_218 (by decide) ?_
          refine q_icmp_ne (tgt := 240) dX12_next_219 (by decide) (fun c => absurd c2 c) (fun _ => ?_)
          refine q_aload_n dX12_next_222 rfl ?_
          refine q_getX (x := (σ 168 11)) dX12_next_223 fF_RX12_136 fl_168_11 rfl ?_
          refine q_aload_n dX12_next_226 rfl ?_
          refine q_getX (x := (σ 168 10)) dX12_next_227 fF_RX12_139 fl_168_10 rfl ?_
          refine q_isub dX12_next_230 ?_
          refine q_iconst (v := 5) dX12_next_231 (by decide) ?_
          refine q_icmp_le (tgt := 240) dX12_next_232 (by decide) (fun c9 => ?_) (fun c9 => ?_)
          · have h := h.1 c9
            exact q_vret rfl dX12_next_240 h
          · have h := h.2 c9
            refine q_aload_n dX12_next_235 rfl ?_
            refine q_iconst (v := 4) dX12_next_236 (by decide) ?_
            refine q_putX (F := upd (σ 168) 12 4) dX12_next_237 fF_RX12_133 fP_12_12 fl_168_12 rfl ?_
            exact q_vret rfl dX12_next_240 h
        · have h := h.2 c8
          refine q_iload_n dX12_next_202 rfl ?_
          refine q_if_eq (tgt := 214) dX12_next_203 (by decide) (fun c10 => ?_) (fun c10 => ?_)
          · have h := h.1 c10
            refine q_aload_n dX12_next_214 rfl ?_
            refine q_getX (x := (σ 168 12)) dX12_next_215 fF_RX12_133 fl_168_12 rfl ?_
            refine q_iconst (v := 2) dX12_next_218 (by decide) ?_
            refine q_icmp_ne (tgt := 240) dX12_next_219 (by decide) (fun c => absurd c2 c) (fun _ => ?_)
            refine q_aload_n dX12_next_222 rfl ?_
            refine q_getX (x := (σ 168 11)) dX12_next_223 fF_RX12_136 fl_168_11 rfl ?_
            refine q_aload_n dX12_next_226 rfl ?_
            refine q_getX (x := (σ 168 10)) dX12_next_227 fF_RX12_139 fl_168_10 rfl ?_
            refine q_isub dX12_next_230 ?_
            refine q_iconst (v := 5) dX12_next_231 (by decide) ?_
            refine q_icmp_le (tgt := 240) dX12_next_232 (by decide) (fun c11 => ?_) (fun c11 => ?_)
            · have h := h.1 c11
              exact q_vret rfl dX12_next_240 h
            · have h := h.2 c11
              refine q_aload_n dX12_next_235 rfl ?_
              refine q_iconst (v := 4) dX12_next_236 (by decide) ?_
              refine q_putX (F := upd (σ 168) 12 4) dX12_next_237 fF_RX12_133 fP_12_12 fl_168_12 rfl ?_
              exact q_vret rfl dX12_next_240 h
          · have h := h.2 c10
            refine q_aload_n dX12_next_206 rfl ?_
            refine q_getX (x := (σ 168 10)) dX12_next_207 fF_RX12_139 fl_168_10 rfl ?_
            refine q_iload_n dX12_next_210 rfl ?_
            refine q_icmp_eq (tgt := 235) dX12_next_211 (by decide) (fun c12 => ?_) (fun c12 => ?_)
            · have h := h.1 c12
              refine q_aload_n dX12_next_235 rfl ?_
              refine q_iconst (v := 4) dX12_next_236 (by decide) ?_
              refine q_putX (F := upd (σ 168) 12 4) dX12_next_237 fF_RX12_133 fP_12_12 fl_168_12 rfl ?_
              exact q_vret rfl dX12_next_240 h
            · have h := h.2 c12
              refine q_aload_n dX12_next_214 rfl ?_
              refine q_getX (x := (σ 168 12)) dX12_next_215 fF_RX12_133 fl_168_12 rfl ?_
              refine q_iconst (v := 2) dX12_next_218 (by decide) ?_
              refine q_icmp_ne (tgt := 240) dX12_next_219 (by decide) (fun c => absurd c2 c) (fun _ => ?_)
              refine q_aload_n dX12_next_222 rfl ?_
              refine q_getX (x := (σ 168 11)) dX12_next_223 fF_RX12_136 fl_168_11 rfl ?_
              refine q_aload_n dX12_next_226 rfl ?_
              refine q_getX (x := (σ 168 10)) dX12_next_227 fF_RX12_139 fl_168_10 rfl ?_
              refine q_isub dX12_next_230 ?_
              refine q_iconst (v := 5) dX12_next_231 (by decide) ?_
              refine q_icmp_le (tgt := 240) dX12_next_232 (by decide) (fun c13 => ?_) (fun c13 => ?_)
              · have h := h.1 c13
                exact q_vret rfl dX12_next_240 h
              · have h := h.2 c13
                refine q_aload_n dX12_next_235 rfl ?_
                refine q_iconst (v := 4) dX12_next_236 (by decide) ?_
                refine q_putX (F := upd (σ 168) 12 4) dX12_next_237 fF_RX12_133 fP_12_12 fl_168_12 rfl ?_
                exact q_vret rfl dX12_next_240 h
  · have h := h.2 c1
    refine q_aload_n dX12_next_151 rfl ?_
    refine q_aload_n dX12_next_152 rfl ?_
    refine q_getX (x := (σ 168 11)) dX12_next_153 fF_RX12_136 fl_168_11 rfl ?_
    obtain ⟨hp14, h⟩ := h
    refine q_cVb (C := (σ 168 11) < (σ 168 4) ∧ ¬ (σ 171 (σ 168 11).toNatClampNeg) < 97 ∧ ¬ 122 < (σ 171 (σ 168 11).toNatClampNeg)) (d' := 1) [.int (σ 168 11)] [] dX12_next_156 ok_X12_isLetter mk_RX12_142 rc_168 rfl (Nat.le_of_ble_eq_true rfl) (by first | decide | omega) (fun Φ h9 => c_X12_isLetter (σ := σ) hp14 Φ h9) (fun c15 => ?_) (fun c15 => ?_)
    · have h := h.1 c15
      refine q_if_ne (tgt := 181) dX12_next_159 (by decide) (fun _ => ?_) (fun c => absurd c (by decide))
      refine q_aload_n dX12_next_181 rfl ?_
      refine q_dup dX12_next_182 rfl ?_
      refine q_getX (x := (σ 168 11)) dX12_next_183 fF_RX12_136 fl_168_11 rfl ?_
      refine q_iconst (v := 1) dX12_next_186 (by decide) ?_
      refine q_iadd dX12_next_187 ?_
      refine q_putX (F := upd (σ 168) 11 ((σ 168 11) + 1)) dX12_next_188 fF_RX12_136 fP_12_11 fl_168_11 rfl ?_
      refine q_goto (tgt := 143) dX12_next_191 (by decide) ?_
      exact h
    · have h := h.2 c15
      refine q_if_ne (tgt := 181) dX12_next_159 (by decide) (fun c => absurd rfl c) (fun _ => ?_)
      refine q_aload_n dX12_next_162 rfl ?_
      refine q_getX (x := (σ 168 12)) dX12_next_163 fF_RX12_133 fl_168_12 rfl ?_
      refine q_iconst (v := 2) dX12_next_166 (by decide) ?_
      refine q_icmp_ne (tgt := 194) dX12_next_167 (by decide) (fun c16 => ?_) (fun c16 => ?_)
      · have h := h.1 c16
        refine q_aload_n dX12_next_194 rfl ?_
        refine q_getX (x := (σ 168 12)) dX12_next_195 fF_RX12_133 fl_168_12 rfl ?_
        refine q_iconst (v := 3) dX12_next_198 (by decide) ?_
        refine q_icmp_eq (tgt := 214) dX12_next_199 (by decide) (fun c17 => ?_) (fun c17 => ?_)
        · have h := h.1 c17
          refine q_aload_n dX12_next_214 rfl ?_
          refine q_getX (x := (σ 168 12)) dX12_next_215 fF_RX12_133 fl_168_12 rfl ?_
          refine q_iconst (v := 2) dX12_next_218 (by decide) ?_
          refine q_icmp_ne (tgt := 240) dX12_next_219 (by decide) (fun _ => ?_) (fun c => absurd c c16)
          exact q_vret rfl dX12_next_240 h
        · have h := h.2 c17
          refine q_iload_n dX12_next_202 rfl ?_
          refine q_if_eq (tgt := 214) dX12_next_203 (by decide) (fun c18 => ?_) (fun c18 => ?_)
          · have h := h.1 c18
            refine q_aload_n dX12_next_214 rfl ?_
            refine q_getX (x := (σ 168 12)) dX12_next_215 fF_RX12_133 fl_168_12 rfl ?_
            refine q_iconst (v := 2) dX12_next_218 (by decide) ?_
            refine q_icmp_ne (tgt := 240) dX12_next_219 (by decide) (fun _ => ?_) (fun c => absurd c c16)
            exact q_vret rfl dX12_next_240 h
          · have h := h.2 c18
            refine q_aload_n dX12_next_206 rfl ?_
            refine q_getX (x := (σ 168 10)) dX12_next_207 fF_RX12_139 fl_168_10 rfl ?_
            refine q_iload_n dX12_next_210 rfl ?_
            refine q_icmp_eq (tgt := 235) dX12_next_211 (by decide) (fun c19 => ?_) (fun c19 => ?_)
            · have h := h.1 c19
              refine q_aload_n dX12_next_235 rfl ?_
              refine q_iconst (v := 4) dX12_next_236 (by decide) ?_
              refine q_putX (F := upd (σ 168) 12 4) dX12_next_237 fF_RX12_133 fP_12_12 fl_168_12 rfl ?_
              exact q_vret rfl dX12_next_240 h
            · have h := h.2 c19
              refine q_aload_n dX12_next_214 rfl ?_
              refine q_getX (x := (σ 168 12)) dX12_next_215 fF_RX12_133 fl_168_12 rfl ?_
              refine q_iconst (v := 2) dX12_next_218 (by decide) ?_
              refine q_icmp_ne (tgt := 240) dX12_next_219 (by decide) (fun _ => ?_) (fun c => absurd c c16)
              exact q_vret rfl dX12_next_240 h
      · have h := h.2 c16
        refine q_aload_n dX12_next_170 rfl ?_
        refine q_aload_n dX12_next_171 rfl ?_
        refine q_getX (x := (σ 168 11)) dX12_next_172 fF_RX12_136 fl_168_11 rfl ?_
        refine q_cVb (C := (σ 168 11) < (σ 168 4) ∧ ¬ (σ 171 (σ 168 11).toNatClampNeg) < 48 ∧ ¬ 57 < (σ 171 (σ 168 11).toNatClampNeg)) (d' := 1) [.int (σ 168 11)] [] dX12_next_175 ok_X12_isDigit mk_RX12_145 rc_168 rfl (Nat.le_of_ble_eq_true rfl) (by first | decide | omega) (fun Φ h9 => c_X12_isDigit (σ := σ) hp14 Φ h9) (fun c20 => ?_) (fun c20 => ?_)
        · have h := h.1 c20
          refine q_if_eq (tgt := 194) dX12_next_178 (by decide) (fun c => absurd c (by decide)) (fun _ => ?_)
          refine q_aload_n dX12_next_181 rfl ?_
          refine q_dup dX12_next_182 rfl ?_
          refine q_getX (x := (σ 168 11)) dX12_next_183 fF_RX12_136 fl_168_11 rfl ?_
          refine q_iconst (v := 1) dX12_next_186 (by decide) ?_
          refine q_iadd dX12_next_187 ?_
          refine q_putX (F := upd (σ 168) 11 ((σ 168 11) + 1)) dX12_next_188 fF_RX12_136 fP_12_11 fl_168_11 rfl ?_
          refine q_goto (tgt := 143) dX12_next_191 (by decide) ?_
          exact h
        · have h := h.2 c20
          refine q_if_eq (tgt := 194) dX12_next_178 (by decide) (fun _ => ?_) (fun c => absurd (by decide) c)
          refine q_aload_n dX12_next_194 rfl ?_
          refine q_getX (x := (σ 168 12)) dX12_next_195 fF_RX12_133 fl_168_12 rfl ?_
          refine q_iconst (v := 3) dX12_next_198 (by decide) ?_
          refine q_icmp_eq (tgt := 214) dX12_next_199 (by decide) (fun c21 => ?_) (fun c21 => ?_)
          · have h := h.1 c21
            refine q_aload_n dX12_next_214 rfl ?_
            refine q_getX (x := (σ 168 12)) dX12_next_215 fF_RX12_133 fl_168_12 rfl ?_
            refine q_iconst (v := 2) dX12_next_218 (by decide) ?_
            refine q_icmp_ne (tgt := 240) dX12_next_219 (by decide) (fun c => absurd c16 c) (fun _ => ?_)
            refine q_aload_n dX12_next_222 rfl ?_
            refine q_getX (x := (σ 168 11)) dX12_next_223 fF_RX12_136 fl_168_11 rfl ?_
            refine q_aload_n dX12_next_226 rfl ?_
            refine q_getX (x := (σ 168 10)) dX12_next_227 fF_RX12_139 fl_168_10 rfl ?_
            refine q_isub dX12_next_230 ?_
            refine q_iconst (v := 5) dX12_next_231 (by decide) ?_
            refine q_icmp_le (tgt := 240) dX12_next_232 (by decide) (fun c22 => ?_) (fun c22 => ?_)
            · have h := h.1 c22
              exact q_vret rfl dX12_next_240 h
            · have h := h.2 c22
              refine q_aload_n dX12_next_235 rfl ?_
              refine q_iconst (v := 4) dX12_next_236 (by decide) ?_
              refine q_putX (F := upd (σ 168) 12 4) dX12_next_237 fF_RX12_133 fP_12_12 fl_168_12 rfl ?_
              exact q_vret rfl dX12_next_240 h
          · have h := h.2 c21
            refine q_iload_n dX12_next_202 rfl ?_
            refine q_if_eq (tgt := 214) dX12_next_203 (by decide) (fun c23 => ?_) (fun c23 => ?_)
            · have h := h.1 c23
              refine q_aload_n dX12_next_214 rfl ?_
              refine q_getX (x := (σ 168 12)) dX12_next_215 fF_RX12_133 fl_168_12 rfl ?_
              refine q_iconst (v := 2) dX12_next_218 (by decide) ?_
              refine q_icmp_ne (tgt := 240) dX12_next_219 (by decide) (fun c => absurd c16 c) (fun _ => ?_)
              refine q_aload_n dX12_next_222 rfl ?_
              refine q_getX (x := (σ 168 11)) dX12_next_223 fF_RX12_136 fl_168_11 rfl ?_
              refine q_aload_n dX12_next_226 rfl ?_
              refine q_getX (x := (σ 168 10)) dX12_next_227 fF_RX12_139 fl_168_10 rfl ?_
              refine q_isub dX12_next_230 ?_
              refine q_iconst (v := 5) dX12_next_231 (by decide) ?_
              refine q_icmp_le (tgt := 240) dX12_next_232 (by decide) (fun c24 => ?_) (fun c24 => ?_)
              · have h := h.1 c24
                exact q_vret rfl dX12_next_240 h
              · have h := h.2 c24
                refine q_aload_n dX12_next_235 rfl ?_
                refine q_iconst (v := 4) dX12_next_236 (by decide) ?_
                refine q_putX (F := upd (σ 168) 12 4) dX12_next_237 fF_RX12_133 fP_12_12 fl_168_12 rfl ?_
                exact q_vret rfl dX12_next_240 h
            · have h := h.2 c23
              refine q_aload_n dX12_next_206 rfl ?_
              refine q_getX (x := (σ 168 10)) dX12_next_207 fF_RX12_139 fl_168_10 rfl ?_
              refine q_iload_n dX12_next_210 rfl ?_
              refine q_icmp_eq (tgt := 235) dX12_next_211 (by decide) (fun c25 => ?_) (fun c25 => ?_)
              · have h := h.1 c25
                refine q_aload_n dX12_next_235 rfl ?_
                refine q_iconst (v := 4) dX12_next_236 (by decide) ?_
                refine q_putX (F := upd (σ 168) 12 4) dX12_next_237 fF_RX12_133 fP_12_12 fl_168_12 rfl ?_
                exact q_vret rfl dX12_next_240 h
              · have h := h.2 c25
                refine q_aload_n dX12_next_214 rfl ?_
                refine q_getX (x := (σ 168 12)) dX12_next_215 fF_RX12_133 fl_168_12 rfl ?_
                refine q_iconst (v := 2) dX12_next_218 (by decide) ?_
                refine q_icmp_ne (tgt := 240) dX12_next_219 (by decide) (fun c => absurd c16 c) (fun _ => ?_)
                refine q_aload_n dX12_next_222 rfl ?_
                refine q_getX (x := (σ 168 11)) dX12_next_223 fF_RX12_136 fl_168_11 rfl ?_
                refine q_aload_n dX12_next_226 rfl ?_
                refine q_getX (x := (σ 168 10)) dX12_next_227 fF_RX12_139 fl_168_10 rfl ?_
                refine q_isub dX12_next_230 ?_
                refine q_iconst (v := 5) dX12_next_231 (by decide) ?_
                refine q_icmp_le (tgt := 240) dX12_next_232 (by decide) (fun c26 => ?_) (fun c26 => ?_)
                · have h := h.1 c26
                  exact q_vret rfl dX12_next_240 h
                · have h := h.2 c26
                  refine q_aload_n dX12_next_235 rfl ?_
                  refine q_iconst (v := 4) dX12_next_236 (by decide) ?_
                  refine q_putX (F := upd (σ 168) 12 4) dX12_next_237 fF_RX12_133 fP_12_12 fl_168_12 rfl ?_
                  exact q_vret rfl dX12_next_240 h

theorem s_X12_isSign_0 (g : vt_GT) (σ : vt_Sg) (P : Option Value → vt_Sg → Prop) (p1 : Int32)
  (h : (¬ (σ 168 13) = 0 → P (some (.int 0)) σ) ∧ ((σ 168 13) = 0 → (¬ (σ 168 12) = 3 → P (some (.int 0)) σ) ∧ ((σ 168 12) = 3 → vp_in (σ 168 10) 132 ∧ ((¬ (σ 171 (σ 168 10).toNatClampNeg) = p1 → P (some (.int 0)) σ) ∧ ((σ 171 (σ 168 10).toNatClampNeg) = p1 → P (some (.int 1)) σ))))) :
  TT g (vt_R 0) 0 0 D_X12_isSign none 0 [some (.ref (g.2.1 168)), some (.int p1)] [] σ P := by
  refine q_aload_n dX12_isSign_0 rfl ?_
  refine q_getX (x := (σ 168 13)) dX12_isSign_1 fF_RX12_148 fl_168_13 rfl ?_
  refine q_if_ne (tgt := 32) dX12_isSign_4 (by decide) (fun c1 => ?_) (fun c1 => ?_)
  · have h := h.1 c1
    refine q_iconst (v := 0) dX12_isSign_32 (by decide) ?_
    exact q_iret .boolean rfl rfl dX12_isSign_33 h
  · have h := h.2 c1
    refine q_aload_n dX12_isSign_7 rfl ?_
    refine q_getX (x := (σ 168 12)) dX12_isSign_8 fF_RX12_133 fl_168_12 rfl ?_
    refine q_iconst (v := 3) dX12_isSign_11 (by decide) ?_
    refine q_icmp_ne (tgt := 32) dX12_isSign_12 (by decide) (fun c2 => ?_) (fun c2 => ?_)
    · have h := h.1 c2
      refine q_iconst (v := 0) dX12_isSign_32 (by decide) ?_
      exact q_iret .boolean rfl rfl dX12_isSign_33 h
    · have h := h.2 c2
      refine q_aload_n dX12_isSign_15 rfl ?_
      refine q_getR dX12_isSign_16 fF_RX12_16 fl_168_3 ?_
      refine q_aload_n dX12_isSign_19 rfl ?_
      refine q_getX (x := (σ 168 10)) dX12_isSign_20 fF_RX12_139 fl_168_10 rfl ?_
      obtain ⟨hi3, h⟩ := h
      refine q_ialdX (v := (σ 171 (σ 168 10).toNatClampNeg)) dX12_isSign_23 ar_171 hi3 rfl ?_
      refine q_iload_n dX12_isSign_24 rfl ?_
      refine q_icmp_ne (tgt := 32) dX12_isSign_25 (by decide) (fun c4 => ?_) (fun c4 => ?_)
      · have h := h.1 c4
        refine q_iconst (v := 0) dX12_isSign_32 (by decide) ?_
        exact q_iret .boolean rfl rfl dX12_isSign_33 h
      · have h := h.2 c4
        refine q_iconst (v := 1) dX12_isSign_28 (by decide) ?_
        refine q_goto (tgt := 33) dX12_isSign_29 (by decide) ?_
        exact q_iret .boolean rfl rfl dX12_isSign_33 h

theorem s_X12_need_0 (g : vt_GT) (σ : vt_Sg) (P : Option Value → vt_Sg → Prop) (p1 : Int32)
  (h : (¬ (σ 168 13) = 0 → P none (su σ 168 (upd (σ 168) 13 1))) ∧ ((σ 168 13) = 0 → (¬ p1 = 0 → vt_Mv g 2 D_X12_next [.ref (g.2.1 168)] (su σ 168 (upd (σ 168) 13 0)) (fun σ3 => P none σ3)) ∧ (p1 = 0 → P none (su σ 168 (upd (σ 168) 13 1))))) :
  TT g (vt_R 3) 0 0 D_X12_need none 0 [some (.ref (g.2.1 168)), some (.int p1)] [] σ P := by
  refine q_aload_n dX12_need_0 rfl ?_
  refine q_aload_n dX12_need_1 rfl ?_
  refine q_getX (x := (σ 168 13)) dX12_need_2 fF_RX12_148 fl_168_13 rfl ?_
  refine q_if_ne (tgt := 12) dX12_need_5 (by decide) (fun c1 => ?_) (fun c1 => ?_)
  · have h := h.1 c1
    refine q_iconst (v := 1) dX12_need_12 (by decide) ?_
    refine q_goto (tgt := 17) dX12_need_13 (by decide) ?_
    refine q_putXZ (F := upd (σ 168) 13 1) dX12_need_17 fF_RX12_148 fP_12_13 fl_168_13 (by decide) rfl ?_
    refine q_aload_n dX12_need_20 rfl ?_
    refine q_getX (x := 1) dX12_need_21 fF_RX12_148 fl_168_13 rfl ?_
    refine q_if_ne (tgt := 31) dX12_need_24 (by decide) (fun _ => ?_) (fun c => absurd c (by decide))
    exact q_vret rfl dX12_need_31 h
  · have h := h.2 c1
    refine q_iload_n dX12_need_8 rfl ?_
    refine q_if_ne (tgt := 16) dX12_need_9 (by decide) (fun c2 => ?_) (fun c2 => ?_)
    · have h := h.1 c2
      refine q_iconst (v := 0) dX12_need_16 (by decide) ?_
      refine q_putXZ (F := upd (σ 168) 13 0) dX12_need_17 fF_RX12_148 fP_12_13 fl_168_13 (by decide) rfl ?_
      refine q_aload_n dX12_need_20 rfl ?_
      refine q_getX (x := 0) dX12_need_21 fF_RX12_148 fl_168_13 rfl ?_
      refine q_if_ne (tgt := 31) dX12_need_24 (by decide) (fun c => absurd rfl c) (fun _ => ?_)
      refine q_aload_n dX12_need_27 rfl ?_
      refine q_cV (d' := 2) [] [] dX12_need_28 ok_X12_next mk_RX12_152 rc_168 rfl (Nat.le_of_ble_eq_true rfl) (by first | decide | omega) h (fun v σ3 h => ?_)
      obtain ⟨rfl, h⟩ := h
      exact q_vret rfl dX12_need_31 h
    · have h := h.2 c2
      refine q_iconst (v := 1) dX12_need_12 (by decide) ?_
      refine q_goto (tgt := 17) dX12_need_13 (by decide) ?_
      refine q_putXZ (F := upd (σ 168) 13 1) dX12_need_17 fF_RX12_148 fP_12_13 fl_168_13 (by decide) rfl ?_
      refine q_aload_n dX12_need_20 rfl ?_
      refine q_getX (x := 1) dX12_need_21 fF_RX12_148 fl_168_13 rfl ?_
      refine q_if_ne (tgt := 31) dX12_need_24 (by decide) (fun _ => ?_) (fun c => absurd c (by decide))
      exact q_vret rfl dX12_need_31 h

theorem s_X12_word_0 (g : vt_GT) (σ : vt_Sg) (P : Option Value → vt_Sg → Prop) (si : Nat) (so : String) (sk : Nat) (tx : String) (bs : List Int32) (hstr : vt_strs[si]? = some (so, sk, tx, bs)) 
  (h : (¬ (σ 168 12) = 1 → TT g (vt_R 5) 0 0 D_X12_word none 32 [some (.ref (g.2.1 168)), some (.ref (g.2.2.2.2.1 si)), some (.int 0), some (.int 0)] [] σ P) ∧ ((σ 168 12) = 1 → vt_Mi g 1 D_J0_length_8abf5 [.ref (g.2.2.2.2.1 si)] σ (fun r3 σ2 => (¬ ((σ 168 11) - (σ 168 10)) = r3 → TT g (vt_R 5) 0 0 D_X12_word none 32 [some (.ref (g.2.1 168)), some (.ref (g.2.2.2.2.1 si)), some (.int 0), some (.int 0)] [] σ2 P) ∧ (((σ 168 11) - (σ 168 10)) = r3 → TT g (vt_R 5) 0 0 D_X12_word none 32 [some (.ref (g.2.1 168)), some (.ref (g.2.2.2.2.1 si)), some (.int 1), some (.int 0)] [] σ2 P)))) :
  TT g (vt_R 5) 0 0 D_X12_word none 0 [some (.ref (g.2.1 168)), some (.ref (g.2.2.2.2.1 si)), none, none] [] σ P := by
  refine q_aload_n dX12_word_0 rfl ?_
  refine q_getX (x := (σ 168 12)) dX12_word_1 fF_RX12_133 fl_168_12 rfl ?_
  refine q_iconst (v := 1) dX12_word_4 (by decide) ?_
  refine q_icmp_ne (tgt := 28) dX12_word_5 (by decide) (fun c1 => ?_) (fun c1 => ?_)
  · have h := h.1 c1
    refine q_iconst (v := 0) dX12_word_28 (by decide) ?_
    refine q_istore_n (L' := [some (.ref (g.2.1 168)), some (.ref (g.2.2.2.2.1 si)), some (.int 0), none]) dX12_word_29 (by decide) rfl rfl ?_
    refine q_iconst (v := 0) dX12_word_30 (by decide) ?_
    refine q_istore_n (L' := [some (.ref (g.2.1 168)), some (.ref (g.2.2.2.2.1 si)), some (.int 0), some (.int 0)]) dX12_word_31 (by decide) rfl rfl ?_
    exact h
  · have h := h.2 c1
    refine q_aload_n dX12_word_8 rfl ?_
    refine q_getX (x := (σ 168 11)) dX12_word_9 fF_RX12_136 fl_168_11 rfl ?_
    refine q_aload_n dX12_word_12 rfl ?_
    refine q_getX (x := (σ 168 10)) dX12_word_13 fF_RX12_139 fl_168_10 rfl ?_
    refine q_isub dX12_word_16 ?_
    refine q_aload_n dX12_word_17 rfl ?_
    refine q_cV (d' := 1) [] [.int ((σ 168 11) - (σ 168 10))] dX12_word_18 ok_J0_length_8abf5 mk_RX12_155 (vt_rcvS hstr) rfl (Nat.le_of_ble_eq_true rfl) (by first | decide | omega) h (fun v σ2 h => ?_)
    obtain ⟨r3, rfl, h⟩ := h
    refine q_icmp_ne (tgt := 28) dX12_word_21 (by decide) (fun c4 => ?_) (fun c4 => ?_)
    · have h := h.1 c4
      refine q_iconst (v := 0) dX12_word_28 (by decide) ?_
      refine q_istore_n (L' := [some (.ref (g.2.1 168)), some (.ref (g.2.2.2.2.1 si)), some (.int 0), none]) dX12_word_29 (by decide) rfl rfl ?_
      refine q_iconst (v := 0) dX12_word_30 (by decide) ?_
      refine q_istore_n (L' := [some (.ref (g.2.1 168)), some (.ref (g.2.2.2.2.1 si)), some (.int 0), some (.int 0)]) dX12_word_31 (by decide) rfl rfl ?_
      exact h
    · have h := h.2 c4
      refine q_iconst (v := 1) dX12_word_24 (by decide) ?_
      refine q_goto (tgt := 29) dX12_word_25 (by decide) ?_
      refine q_istore_n (L' := [some (.ref (g.2.1 168)), some (.ref (g.2.2.2.2.1 si)), some (.int 1), none]) dX12_word_29 (by decide) rfl rfl ?_
      refine q_iconst (v := 0) dX12_word_30 (by decide) ?_
      refine q_istore_n (L' := [some (.ref (g.2.1 168)), some (.ref (g.2.2.2.2.1 si)), some (.int 1), some (.int 0)]) dX12_word_31 (by decide) rfl rfl ?_
      exact h

theorem s_X12_word_32 (g : vt_GT) (σ : vt_Sg) (P : Option Value → vt_Sg → Prop) (si : Nat) (so : String) (sk : Nat) (tx : String) (bs : List Int32) (hstr : vt_strs[si]? = some (so, sk, tx, bs)) (x2 : Int32) (x3 : Int32)
  (h : (x2 = 0 → vt_Mv g 3 D_X12_need [.ref (g.2.1 168), .int x2] σ (fun σ2 => P none σ2)) ∧ (¬ x2 = 0 → vt_Mi g 1 D_J0_length_8abf5 [.ref (g.2.2.2.2.1 si)] σ (fun r4 σ3 => (r4 ≤ x3 → vt_Mv g 3 D_X12_need [.ref (g.2.1 168), .int x2] σ3 (fun σ6 => P none σ6)) ∧ (¬ r4 ≤ x3 → vp_in ((σ3 168 10) + x3) 132 ∧ (vt_Mi g 4 D_J0_charAt_5068e [.ref (g.2.2.2.2.1 si), .int x3] σ3 (fun r9 σ8 => (¬ (σ3 171 ((σ3 168 10) + x3).toNatClampNeg) = r9 → TT g (vt_R 5) 0 0 D_X12_word none 32 [some (.ref (g.2.1 168)), some (.ref (g.2.2.2.2.1 si)), some (.int 0), some (.int (x3 + 1))] [] σ8 P) ∧ ((σ3 171 ((σ3 168 10) + x3).toNatClampNeg) = r9 → TT g (vt_R 5) 0 0 D_X12_word none 32 [some (.ref (g.2.1 168)), some (.ref (g.2.2.2.2.1 si)), some (.int 1), some (.int (x3 + 1))] [] σ8 P))))))) :
  TT g (vt_R 5) 0 0 D_X12_word none 32 [some (.ref (g.2.1 168)), some (.ref (g.2.2.2.2.1 si)), some (.int x2), some (.int x3)] [] σ P := by
  refine q_iload_n dX12_word_32 rfl ?_
  refine q_if_eq (tgt := 75) dX12_word_33 (by decide) (fun c1 => ?_) (fun c1 => ?_)
  · have h := h.1 c1
    refine q_aload_n dX12_word_75 rfl ?_
    refine q_iload_n dX12_word_76 rfl ?_
    refine q_cV (d' := 3) [.int x2] [] dX12_word_77 ok_X12_need mk_RX12_164 rc_168 rfl (Nat.le_of_ble_eq_true rfl) (by first | decide | omega) h (fun v σ2 h => ?_)
    obtain ⟨rfl, h⟩ := h
    exact q_vret rfl dX12_word_80 h
  · have h := h.2 c1
    refine q_iload_n dX12_word_36 rfl ?_
    refine q_aload_n dX12_word_37 rfl ?_
    refine q_cV (d' := 1) [] [.int x3] dX12_word_38 ok_J0_length_8abf5 mk_RX12_155 (vt_rcvS hstr) rfl (Nat.le_of_ble_eq_true rfl) (by first | decide | omega) h (fun v σ3 h => ?_)
    obtain ⟨r4, rfl, h⟩ := h
    refine q_icmp_ge (tgt := 75) dX12_word_41 (by decide) (fun c5 => ?_) (fun c5 => ?_)
    · have h := h.1 c5
      refine q_aload_n dX12_word_75 rfl ?_
      refine q_iload_n dX12_word_76 rfl ?_
      refine q_cV (d' := 3) [.int x2] [] dX12_word_77 ok_X12_need mk_RX12_164 rc_168 rfl (Nat.le_of_ble_eq_true rfl) (by first | decide | omega) h (fun v σ6 h => ?_)
      obtain ⟨rfl, h⟩ := h
      exact q_vret rfl dX12_word_80 h
    · have h := h.2 c5
      refine q_aload_n dX12_word_44 rfl ?_
      refine q_getR dX12_word_45 fF_RX12_16 fl_168_3 ?_
      refine q_aload_n dX12_word_48 rfl ?_
      refine q_getX (x := (σ3 168 10)) dX12_word_49 fF_RX12_139 fl_168_10 rfl ?_
      refine q_iload_n dX12_word_52 rfl ?_
      refine q_iadd dX12_word_53 ?_
      obtain ⟨hi7, h⟩ := h
      refine q_ialdX (v := (σ3 171 ((σ3 168 10) + x3).toNatClampNeg)) dX12_word_54 ar_171 hi7 rfl ?_
      refine q_aload_n dX12_word_55 rfl ?_
      refine q_iload_n dX12_word_56 rfl ?_
      refine q_cV (d' := 4) [.int x3] [.int (σ3 171 ((σ3 168 10) + x3).toNatClampNeg)] dX12_word_57 ok_J0_charAt_5068e mk_RX12_160 (vt_rcvS hstr) rfl (Nat.le_of_ble_eq_true rfl) (by first | decide | omega) h (fun v σ8 h => ?_)
      obtain ⟨r9, rfl, h⟩ := h
      refine q_icmp_ne (tgt := 67) dX12_word_60 (by decide) (fun c10 => ?_) (fun c10 => ?_)
      · have h := h.1 c10
        refine q_iconst (v := 0) dX12_word_67 (by decide) ?_
        refine q_istore_n (L' := [some (.ref (g.2.1 168)), some (.ref (g.2.2.2.2.1 si)), some (.int 0), some (.int x3)]) dX12_word_68 (by decide) rfl rfl ?_
        refine q_iinc (L' := [some (.ref (g.2.1 168)), some (.ref (g.2.2.2.2.1 si)), some (.int 0), some (.int (x3 + 1))]) dX12_word_69 rfl (by decide) rfl rfl ?_
        refine q_goto (tgt := 32) dX12_word_72 (by decide) ?_
        exact h
      · have h := h.2 c10
        refine q_iconst (v := 1) dX12_word_63 (by decide) ?_
        refine q_goto (tgt := 68) dX12_word_64 (by decide) ?_
        refine q_istore_n (L' := [some (.ref (g.2.1 168)), some (.ref (g.2.2.2.2.1 si)), some (.int 1), some (.int x3)]) dX12_word_68 (by decide) rfl rfl ?_
        refine q_iinc (L' := [some (.ref (g.2.1 168)), some (.ref (g.2.2.2.2.1 si)), some (.int 1), some (.int (x3 + 1))]) dX12_word_69 rfl (by decide) rfl rfl ?_
        refine q_goto (tgt := 32) dX12_word_72 (by decide) ?_
        exact h

theorem s_X12_put_0 (g : vt_GT) (σ : vt_Sg) (P : Option Value → vt_Sg → Prop) (p1 : Int32)
  (h : (¬ (σ 168 13) = 0 → P none σ) ∧ ((σ 168 13) = 0 → vp_in (σ 168 17) 140 ∧ (P none (su (su σ 176 (upd (σ 176) ((σ 168 17).toNatClampNeg) p1)) 168 (upd (σ 168) 17 ((σ 168 17) + 1)))))) :
  TT g (vt_R 0) 0 0 D_X12_put none 0 [some (.ref (g.2.1 168)), some (.int p1)] [] σ P := by
  refine q_aload_n dX12_put_0 rfl ?_
  refine q_getX (x := (σ 168 13)) dX12_put_1 fF_RX12_148 fl_168_13 rfl ?_
  refine q_if_ne (tgt := 27) dX12_put_4 (by decide) (fun c1 => ?_) (fun c1 => ?_)
  · have h := h.1 c1
    exact q_vret rfl dX12_put_27 h
  · have h := h.2 c1
    refine q_aload_n dX12_put_7 rfl ?_
    refine q_getR dX12_put_8 fF_RX12_31 fl_168_16 ?_
    refine q_aload_n dX12_put_11 rfl ?_
    refine q_getX (x := (σ 168 17)) dX12_put_12 fF_RX12_168 fl_168_17 rfl ?_
    refine q_iload_n dX12_put_15 rfl ?_
    obtain ⟨hi2, h⟩ := h
    refine q_iastX (F := upd (σ 176) ((σ 168 17).toNatClampNeg) p1) dX12_put_16 ar_176 hi2 rfl ?_
    refine q_aload_n dX12_put_17 rfl ?_
    refine q_dup dX12_put_18 rfl ?_
    refine q_getX (x := (σ 168 17)) dX12_put_19 fF_RX12_168 fl_168_17 rfl ?_
    refine q_iconst (v := 1) dX12_put_22 (by decide) ?_
    refine q_iadd dX12_put_23 ?_
    refine q_putX (F := upd (σ 168) 17 ((σ 168 17) + 1)) dX12_put_24 fF_RX12_168 fP_12_17 fl_168_17 rfl ?_
    exact q_vret rfl dX12_put_27 h

theorem s_X12_signHere_0 (g : vt_GT) (σ : vt_Sg) (P : Option Value → vt_Sg → Prop) (p1 : Int32) (p2 : Int32)
  (h : TT g (vt_R 5) 0 0 D_X12_signHere none 5 [some (.ref (g.2.1 168)), some (.int p1), some (.int p2), some (.int (-1)), some (.int p1)] [] σ P) :
  TT g (vt_R 5) 0 0 D_X12_signHere none 0 [some (.ref (g.2.1 168)), some (.int p1), some (.int p2), none, none] [] σ P := by
  refine q_iconst (v := (-1)) dX12_signHere_0 (by decide) ?_
  refine q_istore_n (L' := [some (.ref (g.2.1 168)), some (.int p1), some (.int p2), some (.int (-1)), none]) dX12_signHere_1 (by decide) rfl rfl ?_
  refine q_iload_n dX12_signHere_2 rfl ?_
  refine q_istore (L' := [some (.ref (g.2.1 168)), some (.int p1), some (.int p2), some (.int (-1)), some (.int p1)]) dX12_signHere_3 (by decide) rfl rfl ?_
  exact h

theorem s_X12_signHere_5 (g : vt_GT) (σ : vt_Sg) (P : Option Value → vt_Sg → Prop) (x1 : Int32) (x2 : Int32) (x3 : Int32) (x4 : Int32)
  (h : (x2 < x4 → P (some (.int x3)) σ) ∧ (¬ x2 < x4 → vt_Mi g 4 D_J0_charAt_5068e [.ref (g.2.2.2.2.1 6), .int x4] σ (fun r3 σ2 => vt_Mi g 0 D_X12_isSign [.ref (g.2.1 168), .int r3] σ2 (fun r5 σ4 => (r5 = 0 → TT g (vt_R 5) 0 0 D_X12_signHere none 5 [some (.ref (g.2.1 168)), some (.int x1), some (.int x2), some (.int x3), some (.int (x4 + 1))] [] σ4 P) ∧ (¬ r5 = 0 → TT g (vt_R 5) 0 0 D_X12_signHere none 5 [some (.ref (g.2.1 168)), some (.int x1), some (.int x2), some (.int x4), some (.int (x4 + 1))] [] σ4 P))))) :
  TT g (vt_R 5) 0 0 D_X12_signHere none 5 [some (.ref (g.2.1 168)), some (.int x1), some (.int x2), some (.int x3), some (.int x4)] [] σ P := by
  refine q_iload dX12_signHere_5 rfl ?_
  refine q_iload_n dX12_signHere_7 rfl ?_
  refine q_icmp_gt (tgt := 38) dX12_signHere_8 (by decide) (fun c1 => ?_) (fun c1 => ?_)
  · have h := h.1 c1
    refine q_iload_n dX12_signHere_38 rfl ?_
    exact q_iret .int rfl rfl dX12_signHere_39 h
  · have h := h.2 c1
    refine q_aload_n dX12_signHere_11 rfl ?_
    refine q_ldcS (k0 := 6) dX12_signHere_12 rfl ?_
    refine q_iload dX12_signHere_14 rfl ?_
    refine q_cV (d' := 4) [.int x4] [.ref (g.2.1 168)] dX12_signHere_16 ok_J0_charAt_5068e mk_RX12_160 (vt_rcvS rfl) rfl (Nat.le_of_ble_eq_true rfl) (by first | decide | omega) h (fun v σ2 h => ?_)
    obtain ⟨r3, rfl, h⟩ := h
    refine q_cV (d' := 0) [.int r3] [] dX12_signHere_19 ok_X12_isSign mk_RX12_173 rc_168 rfl (Nat.le_of_ble_eq_true rfl) (by first | decide | omega) h (fun v σ4 h => ?_)
    obtain ⟨r5, rfl, h⟩ := h
    refine q_if_eq (tgt := 30) dX12_signHere_22 (by decide) (fun c6 => ?_) (fun c6 => ?_)
    · have h := h.1 c6
      refine q_iload_n dX12_signHere_30 rfl ?_
      refine q_istore_n (L' := [some (.ref (g.2.1 168)), some (.int x1), some (.int x2), some (.int x3), some (.int x4)]) dX12_signHere_31 (by decide) rfl rfl ?_
      refine q_iinc (L' := [some (.ref (g.2.1 168)), some (.int x1), some (.int x2), some (.int x3), some (.int (x4 + 1))]) dX12_signHere_32 rfl (by decide) rfl rfl ?_
      refine q_goto (tgt := 5) dX12_signHere_35 (by decide) ?_
      exact h
    · have h := h.2 c6
      refine q_iload dX12_signHere_25 rfl ?_
      refine q_goto (tgt := 31) dX12_signHere_27 (by decide) ?_
      refine q_istore_n (L' := [some (.ref (g.2.1 168)), some (.int x1), some (.int x2), some (.int x4), some (.int x4)]) dX12_signHere_31 (by decide) rfl rfl ?_
      refine q_iinc (L' := [some (.ref (g.2.1 168)), some (.int x1), some (.int x2), some (.int x4), some (.int (x4 + 1))]) dX12_signHere_32 rfl (by decide) rfl rfl ?_
      refine q_goto (tgt := 5) dX12_signHere_35 (by decide) ?_
      exact h

theorem s_X12_part_0 (g : vt_GT) (σ : vt_Sg) (P : Option Value → vt_Sg → Prop) (d : Nat) (hd : 9 ≤ d) 
  (h : ((σ 168 13) = 0 → (¬ (σ 168 12) = 2 → (¬ (σ 168 12) = 1 → vt_Mi g 0 D_X12_isSign [.ref (g.2.1 168), .int 33] σ (fun r5 σ4 => (r5 = 0 → vt_Mi g 0 D_X12_isSign [.ref (g.2.1 168), .int 40] σ4 (fun r8 σ7 => (r8 = 0 → P none (su σ7 168 (upd (σ7 168) 13 1))) ∧ (¬ r8 = 0 → (8 ≤ (σ7 168 14) → P none (su σ7 168 (upd (σ7 168) 13 1))) ∧ (¬ 8 ≤ (σ7 168 14) → vt_Mv g 2 D_X12_next [.ref (g.2.1 168)] (su σ7 168 (upd (σ7 168) 14 ((σ7 168 14) + 1))) (fun σ11 => vt_Mv g d D_X12_either [.ref (g.2.1 168)] σ11 (fun σ12 => vt_Mi g 0 D_X12_isSign [.ref (g.2.1 168), .int 41] σ12 (fun r14 σ13 => vt_Mv g 3 D_X12_need [.ref (g.2.1 168), .int r14] σ13 (fun σ15 => P none (su σ15 168 (upd (σ15 168) 14 ((σ15 168 14) - 1))))))))))) ∧ (¬ r5 = 0 → (8 ≤ (σ4 168 15) → vt_Mi g 0 D_X12_isSign [.ref (g.2.1 168), .int 40] σ4 (fun r18 σ17 => (r18 = 0 → P none (su σ17 168 (upd (σ17 168) 13 1))) ∧ (¬ r18 = 0 → (8 ≤ (σ17 168 14) → P none (su σ17 168 (upd (σ17 168) 13 1))) ∧ (¬ 8 ≤ (σ17 168 14) → vt_Mv g 2 D_X12_next [.ref (g.2.1 168)] (su σ17 168 (upd (σ17 168) 14 ((σ17 168 14) + 1))) (fun σ21 => vt_Mv g d D_X12_either [.ref (g.2.1 168)] σ21 (fun σ22 => vt_Mi g 0 D_X12_isSign [.ref (g.2.1 168), .int 41] σ22 (fun r24 σ23 => vt_Mv g 3 D_X12_need [.ref (g.2.1 168), .int r24] σ23 (fun σ25 => P none (su σ25 168 (upd (σ25 168) 14 ((σ25 168 14) - 1))))))))))) ∧ (¬ 8 ≤ (σ4 168 15) → vt_Mv g 2 D_X12_next [.ref (g.2.1 168)] (su σ4 168 (upd (σ4 168) 15 ((σ4 168 15) + 1))) (fun σ26 => vt_Mv g d D_X12_part [.ref (g.2.1 168)] σ26 (fun σ27 => vt_Mv g 0 D_X12_put [.ref (g.2.1 168), .int 200009] (su σ27 168 (upd (σ27 168) 15 ((σ27 168 15) - 1))) (fun σ28 => P none σ28))))))) ∧ ((σ 168 12) = 1 → (¬ ((σ 168 11) - (σ 168 10)) = 1 → vt_Mi g 0 D_X12_isSign [.ref (g.2.1 168), .int 33] σ (fun r31 σ30 => (r31 = 0 → vt_Mi g 0 D_X12_isSign [.ref (g.2.1 168), .int 40] σ30 (fun r34 σ33 => (r34 = 0 → P none (su σ33 168 (upd (σ33 168) 13 1))) ∧ (¬ r34 = 0 → (8 ≤ (σ33 168 14) → P none (su σ33 168 (upd (σ33 168) 13 1))) ∧ (¬ 8 ≤ (σ33 168 14) → vt_Mv g 2 D_X12_next [.ref (g.2.1 168)] (su σ33 168 (upd (σ33 168) 14 ((σ33 168 14) + 1))) (fun σ37 => vt_Mv g d D_X12_either [.ref (g.2.1 168)] σ37 (fun σ38 => vt_Mi g 0 D_X12_isSign [.ref (g.2.1 168), .int 41] σ38 (fun r40 σ39 => vt_Mv g 3 D_X12_need [.ref (g.2.1 168), .int r40] σ39 (fun σ41 => P none (su σ41 168 (upd (σ41 168) 14 ((σ41 168 14) - 1))))))))))) ∧ (¬ r31 = 0 → (8 ≤ (σ30 168 15) → vt_Mi g 0 D_X12_isSign [.ref (g.2.1 168), .int 40] σ30 (fun r44 σ43 => (r44 = 0 → P none (su σ43 168 (upd (σ43 168) 13 1))) ∧ (¬ r44 = 0 → (8 ≤ (σ43 168 14) → P none (su σ43 168 (upd (σ43 168) 13 1))) ∧ (¬ 8 ≤ (σ43 168 14) → vt_Mv g 2 D_X12_next [.ref (g.2.1 168)] (su σ43 168 (upd (σ43 168) 14 ((σ43 168 14) + 1))) (fun σ47 => vt_Mv g d D_X12_either [.ref (g.2.1 168)] σ47 (fun σ48 => vt_Mi g 0 D_X12_isSign [.ref (g.2.1 168), .int 41] σ48 (fun r50 σ49 => vt_Mv g 3 D_X12_need [.ref (g.2.1 168), .int r50] σ49 (fun σ51 => P none (su σ51 168 (upd (σ51 168) 14 ((σ51 168 14) - 1))))))))))) ∧ (¬ 8 ≤ (σ30 168 15) → vt_Mv g 2 D_X12_next [.ref (g.2.1 168)] (su σ30 168 (upd (σ30 168) 15 ((σ30 168 15) + 1))) (fun σ52 => vt_Mv g d D_X12_part [.ref (g.2.1 168)] σ52 (fun σ53 => vt_Mv g 0 D_X12_put [.ref (g.2.1 168), .int 200009] (su σ53 168 (upd (σ53 168) 15 ((σ53 168 15) - 1))) (fun σ54 => P none σ54))))))) ∧ (((σ 168 11) - (σ 168 10)) = 1 → vp_in (σ 168 10) 132 ∧ (vt_Mi g 6 D_J0_indexOf_0f7a4 [.ref (g.2.2.2.2.1 5), .int (σ 171 (σ 168 10).toNatClampNeg)] σ (fun r57 σ56 => (r57 < 0 → vt_Mi g 0 D_X12_isSign [.ref (g.2.1 168), .int 33] σ56 (fun r60 σ59 => (r60 = 0 → vt_Mi g 0 D_X12_isSign [.ref (g.2.1 168), .int 40] σ59 (fun r63 σ62 => (r63 = 0 → P none (su σ62 168 (upd (σ62 168) 13 1))) ∧ (¬ r63 = 0 → (8 ≤ (σ62 168 14) → P none (su σ62 168 (upd (σ62 168) 13 1))) ∧ (¬ 8 ≤ (σ62 168 14) → vt_Mv g 2 D_X12_next [.ref (g.2.1 168)] (su σ62 168 (upd (σ62 168) 14 ((σ62 168 14) + 1))) (fun σ66 => vt_Mv g d D_X12_either [.ref (g.2.1 168)] σ66 (fun σ67 => vt_Mi g 0 D_X12_isSign [.ref (g.2.1 168), .int 41] σ67 (fun r69 σ68 => vt_Mv g 3 D_X12_need [.ref (g.2.1 168), .int r69] σ68 (fun σ70 => P none (su σ70 168 (upd (σ70 168) 14 ((σ70 168 14) - 1))))))))))) ∧ (¬ r60 = 0 → (8 ≤ (σ59 168 15) → vt_Mi g 0 D_X12_isSign [.ref (g.2.1 168), .int 40] σ59 (fun r73 σ72 => (r73 = 0 → P none (su σ72 168 (upd (σ72 168) 13 1))) ∧ (¬ r73 = 0 → (8 ≤ (σ72 168 14) → P none (su σ72 168 (upd (σ72 168) 13 1))) ∧ (¬ 8 ≤ (σ72 168 14) → vt_Mv g 2 D_X12_next [.ref (g.2.1 168)] (su σ72 168 (upd (σ72 168) 14 ((σ72 168 14) + 1))) (fun σ76 => vt_Mv g d D_X12_either [.ref (g.2.1 168)] σ76 (fun σ77 => vt_Mi g 0 D_X12_isSign [.ref (g.2.1 168), .int 41] σ77 (fun r79 σ78 => vt_Mv g 3 D_X12_need [.ref (g.2.1 168), .int r79] σ78 (fun σ80 => P none (su σ80 168 (upd (σ80 168) 14 ((σ80 168 14) - 1))))))))))) ∧ (¬ 8 ≤ (σ59 168 15) → vt_Mv g 2 D_X12_next [.ref (g.2.1 168)] (su σ59 168 (upd (σ59 168) 15 ((σ59 168 15) + 1))) (fun σ81 => vt_Mv g d D_X12_part [.ref (g.2.1 168)] σ81 (fun σ82 => vt_Mv g 0 D_X12_put [.ref (g.2.1 168), .int 200009] (su σ82 168 (upd (σ82 168) 15 ((σ82 168 15) - 1))) (fun σ83 => P none σ83))))))) ∧ (¬ r57 < 0 → vp_in (σ56 168 10) 132 ∧ (vt_Mi g 6 D_J0_indexOf_0f7a4 [.ref (g.2.2.2.2.1 5), .int (σ56 171 (σ56 168 10).toNatClampNeg)] σ56 (fun r86 σ85 => vt_Mv g 0 D_X12_put [.ref (g.2.1 168), .int (100000 + r86)] σ85 (fun σ87 => vt_Mv g 2 D_X12_next [.ref (g.2.1 168)] (su σ87 168 (upd (σ87 168) 18 ((σ87 168 18) + 1))) (fun σ88 => P none σ88)))))))))) ∧ ((σ 168 12) = 2 → TT g (vt_R (d + 1)) 0 0 D_X12_part none 23 [some (.ref (g.2.1 168)), some (.int 0), some (.int (σ 168 10))] [] σ P)) ∧ (¬ (σ 168 13) = 0 → P none σ)) :
  TT g (vt_R (d + 1)) 0 0 D_X12_part none 0 [some (.ref (g.2.1 168)), none, none] [] σ P := by
  refine q_aload_n dX12_part_0 rfl ?_
  refine q_getX (x := (σ 168 13)) dX12_part_1 fF_RX12_148 fl_168_13 rfl ?_
  refine q_if_eq (tgt := 8) dX12_part_4 (by decide) (fun c1 => ?_) (fun c1 => ?_)
  · have h := h.1 c1
    refine q_aload_n dX12_part_8 rfl ?_
    refine q_getX (x := (σ 168 12)) dX12_part_9 fF_RX12_133 fl_168_12 rfl ?_
    refine q_iconst (v := 2) dX12_part_12 (by decide) ?_
    refine q_icmp_ne (tgt := 74) dX12_part_13 (by decide) (fun c2 => ?_) (fun c2 => ?_)
    · have h := h.1 c2
      refine q_aload_n dX12_part_74 rfl ?_
      refine q_getX (x := (σ 168 12)) dX12_part_75 fF_RX12_133 fl_168_12 rfl ?_
      refine q_iconst (v := 1) dX12_part_78 (by decide) ?_
      refine q_icmp_ne (tgt := 150) dX12_part_79 (by decide) (fun c3 => ?_) (fun c3 => ?_)
      · have h := h.1 c3
        refine q_aload_n dX12_part_150 rfl ?_
        refine q_bipush (v := 33) dX12_part_151 (by decide) ?_
        refine q_cV (d' := 0) [.int 33] [] dX12_part_153 ok_X12_isSign mk_RX12_173 rc_168 rfl (Nat.le_of_ble_eq_true rfl) (by first | decide | omega) h (fun v σ4 h => ?_)
        obtain ⟨r5, rfl, h⟩ := h
        refine q_if_eq (tgt := 205) dX12_part_156 (by decide) (fun c6 => ?_) (fun c6 => ?_)
        · have h := h.1 c6
          refine q_aload_n dX12_part_205 rfl ?_
          refine q_bipush (v := 40) dX12_part_206 (by decide) ?_
          refine q_cV (d' := 0) [.int 40] [] dX12_part_208 ok_X12_isSign mk_RX12_173 rc_168 rfl (Nat.le_of_ble_eq_true rfl) (by first | decide | omega) h (fun v σ7 h => ?_)
          obtain ⟨r8, rfl, h⟩ := h
          refine q_if_eq (tgt := 264) dX12_part_211 (by decide) (fun c9 => ?_) (fun c9 => ?_)
          · have h := h.1 c9
            refine q_aload_n dX12_part_264 rfl ?_
            refine q_iconst (v := 1) dX12_part_265 (by decide) ?_
            refine q_putXZ (F := upd (σ7 168) 13 1) dX12_part_266 fF_RX12_148 fP_12_13 fl_168_13 (by decide) rfl ?_
            exact q_vret rfl dX12_part_269 h
          · have h := h.2 c9
            refine q_aload_n dX12_part_214 rfl ?_
            refine q_getX (x := (σ7 168 14)) dX12_part_215 fF_RX12_195 fl_168_14 rfl ?_
            refine q_bipush (v := 8) dX12_part_218 (by decide) ?_
            refine q_icmp_ge (tgt := 264) dX12_part_220 (by decide) (fun c10 => ?_) (fun c10 => ?_)
            · have h := h.1 c10
              refine q_aload_n dX12_part_264 rfl ?_
              refine q_iconst (v := 1) dX12_part_265 (by decide) ?_
              refine q_putXZ (F := upd (σ7 168) 13 1) dX12_part_266 fF_RX12_148 fP_12_13 fl_168_13 (by decide) rfl ?_
              exact q_vret rfl dX12_part_269 h
            · have h := h.2 c10
              refine q_aload_n dX12_part_223 rfl ?_
              refine q_dup dX12_part_224 rfl ?_
              refine q_getX (x := (σ7 168 14)) dX12_part_225 fF_RX12_195 fl_168_14 rfl ?_
              refine q_iconst (v := 1) dX12_part_228 (by decide) ?_
              refine q_iadd dX12_part_229 ?_
              refine q_putX (F := upd (σ7 168) 14 ((σ7 168 14) + 1)) dX12_part_230 fF_RX12_195 fP_12_14 fl_168_14 rfl ?_
              refine q_aload_n dX12_part_233 rfl ?_
              refine q_cV (d' := 2) [] [] dX12_part_234 ok_X12_next mk_RX12_152 rc_168 rfl (Nat.le_of_ble_eq_true rfl) (by first | decide | omega) h (fun v σ11 h => ?_)
              obtain ⟨rfl, h⟩ := h
              refine q_aload_n dX12_part_237 rfl ?_
              refine q_cV (d' := d) [] [] dX12_part_238 ok_X12_either mk_RX12_198 rc_168 rfl (Nat.le_of_ble_eq_true rfl) (by first | decide | omega) h (fun v σ12 h => ?_)
              obtain ⟨rfl, h⟩ := h
              refine q_aload_n dX12_part_241 rfl ?_
              refine q_aload_n dX12_part_242 rfl ?_
              refine q_bipush (v := 41) dX12_part_243 (by decide) ?_
              refine q_cV (d' := 0) [.int 41] [.ref (g.2.1 168)] dX12_part_245 ok_X12_isSign mk_RX12_173 rc_168 rfl (Nat.le_of_ble_eq_true rfl) (by first | decide | omega) h (fun v σ13 h => ?_)
              obtain ⟨r14, rfl, h⟩ := h
              refine q_cV (d' := 3) [.int r14] [] dX12_part_248 ok_X12_need mk_RX12_164 rc_168 rfl (Nat.le_of_ble_eq_true rfl) (by first | decide | omega) h (fun v σ15 h => ?_)
              obtain ⟨rfl, h⟩ := h
              refine q_aload_n dX12_part_251 rfl ?_
              refine q_dup dX12_part_252 rfl ?_
              refine q_getX (x := (σ15 168 14)) dX12_part_253 fF_RX12_195 fl_168_14 rfl ?_
              refine q_iconst (v := 1) dX12_part_256 (by decide) ?_
              refine q_isub dX12_part_257 ?_
              refine q_putX (F := upd (σ15 168) 14 ((σ15 168 14) - 1)) dX12_part_258 fF_RX12_195 fP_12_14 fl_168_14 rfl ?_
              refine q_goto (tgt := 269) dX12_part_261 (by decide) ?_
              exact q_vret rfl dX12_part_269 h
        · have h := h.2 c6
          refine q_aload_n dX12_part_159 rfl ?_
          refine q_getX (x := (σ4 168 15)) dX12_part_160 fF_RX12_188 fl_168_15 rfl ?_
          refine q_bipush (v := 8) dX12_part_163 (by decide) ?_
          refine q_icmp_ge (tgt := 205) dX12_part_165 (by decide) (fun c16 => ?_) (fun c16 => ?_)
          · have h := h.1 c16
            refine q_aload_n dX12_part_205 rfl ?_
            refine q_bipush (v := 40) dX12_part_206 (by decide) ?_
            refine q_cV (d' := 0) [.int 40] [] dX12_part_208 ok_X12_isSign mk_RX12_173 rc_168 rfl (Nat.le_of_ble_eq_true rfl) (by first | decide | omega) h (fun v σ17 h => ?_)
            obtain ⟨r18, rfl, h⟩ := h
            refine q_if_eq (tgt := 264) dX12_part_211 (by decide) (fun c19 => ?_) (fun c19 => ?_)
            · have h := h.1 c19
              refine q_aload_n dX12_part_264 rfl ?_
              refine q_iconst (v := 1) dX12_part_265 (by decide) ?_
              refine q_putXZ (F := upd (σ17 168) 13 1) dX12_part_266 fF_RX12_148 fP_12_13 fl_168_13 (by decide) rfl ?_
              exact q_vret rfl dX12_part_269 h
            · have h := h.2 c19
              refine q_aload_n dX12_part_214 rfl ?_
              refine q_getX (x := (σ17 168 14)) dX12_part_215 fF_RX12_195 fl_168_14 rfl ?_
              refine q_bipush (v := 8) dX12_part_218 (by decide) ?_
              refine q_icmp_ge (tgt := 264) dX12_part_220 (by decide) (fun c20 => ?_) (fun c20 => ?_)
              · have h := h.1 c20
                refine q_aload_n dX12_part_264 rfl ?_
                refine q_iconst (v := 1) dX12_part_265 (by decide) ?_
                refine q_putXZ (F := upd (σ17 168) 13 1) dX12_part_266 fF_RX12_148 fP_12_13 fl_168_13 (by decide) rfl ?_
                exact q_vret rfl dX12_part_269 h
              · have h := h.2 c20
                refine q_aload_n dX12_part_223 rfl ?_
                refine q_dup dX12_part_224 rfl ?_
                refine q_getX (x := (σ17 168 14)) dX12_part_225 fF_RX12_195 fl_168_14 rfl ?_
                refine q_iconst (v := 1) dX12_part_228 (by decide) ?_
                refine q_iadd dX12_part_229 ?_
                refine q_putX (F := upd (σ17 168) 14 ((σ17 168 14) + 1)) dX12_part_230 fF_RX12_195 fP_12_14 fl_168_14 rfl ?_
                refine q_aload_n dX12_part_233 rfl ?_
                refine q_cV (d' := 2) [] [] dX12_part_234 ok_X12_next mk_RX12_152 rc_168 rfl (Nat.le_of_ble_eq_true rfl) (by first | decide | omega) h (fun v σ21 h => ?_)
                obtain ⟨rfl, h⟩ := h
                refine q_aload_n dX12_part_237 rfl ?_
                refine q_cV (d' := d) [] [] dX12_part_238 ok_X12_either mk_RX12_198 rc_168 rfl (Nat.le_of_ble_eq_true rfl) (by first | decide | omega) h (fun v σ22 h => ?_)
                obtain ⟨rfl, h⟩ := h
                refine q_aload_n dX12_part_241 rfl ?_
                refine q_aload_n dX12_part_242 rfl ?_
                refine q_bipush (v := 41) dX12_part_243 (by decide) ?_
                refine q_cV (d' := 0) [.int 41] [.ref (g.2.1 168)] dX12_part_245 ok_X12_isSign mk_RX12_173 rc_168 rfl (Nat.le_of_ble_eq_true rfl) (by first | decide | omega) h (fun v σ23 h => ?_)
                obtain ⟨r24, rfl, h⟩ := h
                refine q_cV (d' := 3) [.int r24] [] dX12_part_248 ok_X12_need mk_RX12_164 rc_168 rfl (Nat.le_of_ble_eq_true rfl) (by first | decide | omega) h (fun v σ25 h => ?_)
                obtain ⟨rfl, h⟩ := h
                refine q_aload_n dX12_part_251 rfl ?_
                refine q_dup dX12_part_252 rfl ?_
                refine q_getX (x := (σ25 168 14)) dX12_part_253 fF_RX12_195 fl_168_14 rfl ?_
                refine q_iconst (v := 1) dX12_part_256 (by decide) ?_
                refine q_isub dX12_part_257 ?_
                refine q_putX (F := upd (σ25 168) 14 ((σ25 168 14) - 1)) dX12_part_258 fF_RX12_195 fP_12_14 fl_168_14 rfl ?_
                refine q_goto (tgt := 269) dX12_part_261 (by decide) ?_
                exact q_vret rfl dX12_part_269 h
          · have h := h.2 c16
            refine q_aload_n dX12_part_168 rfl ?_
            refine q_dup dX12_part_169 rfl ?_
            refine q_getX (x := (σ4 168 15)) dX12_part_170 fF_RX12_188 fl_168_15 rfl ?_
            refine q_iconst (v := 1) dX12_part_173 (by decide) ?_
            refine q_iadd dX12_part_174 ?_
            refine q_putX (F := upd (σ4 168) 15 ((σ4 168 15) + 1)) dX12_part_175 fF_RX12_188 fP_12_15 fl_168_15 rfl ?_
            refine q_aload_n dX12_part_178 rfl ?_
            refine q_cV (d' := 2) [] [] dX12_part_179 ok_X12_next mk_RX12_152 rc_168 rfl (Nat.le_of_ble_eq_true rfl) (by first | decide | omega) h (fun v σ26 h => ?_)
            obtain ⟨rfl, h⟩ := h
            refine q_aload_n dX12_part_182 rfl ?_
            refine q_cV (d' := d) [] [] dX12_part_183 ok_X12_part mk_RX12_191 rc_168 rfl (Nat.le_of_ble_eq_true rfl) (by first | decide | omega) h (fun v σ27 h => ?_)
            obtain ⟨rfl, h⟩ := h
            refine q_aload_n dX12_part_186 rfl ?_
            refine q_dup dX12_part_187 rfl ?_
            refine q_getX (x := (σ27 168 15)) dX12_part_188 fF_RX12_188 fl_168_15 rfl ?_
            refine q_iconst (v := 1) dX12_part_191 (by decide) ?_
            refine q_isub dX12_part_192 ?_
            refine q_putX (F := upd (σ27 168) 15 ((σ27 168 15) - 1)) dX12_part_193 fF_RX12_188 fP_12_15 fl_168_15 rfl ?_
            refine q_aload_n dX12_part_196 rfl ?_
            refine q_ldc dX12_part_197 ct_RX12_194 ?_
            refine q_cV (d' := 0) [.int 200009] [] dX12_part_199 ok_X12_put mk_RX12_176 rc_168 rfl (Nat.le_of_ble_eq_true rfl) (by first | decide | omega) h (fun v σ28 h => ?_)
            obtain ⟨rfl, h⟩ := h
            refine q_goto (tgt := 269) dX12_part_202 (by decide) ?_
            exact q_vret rfl dX12_part_269 h
      · have h := h.2 c3
        refine q_aload_n dX12_part_82 rfl ?_
        refine q_getX (x := (σ 168 11)) dX12_part_83 fF_RX12_136 fl_168_11 rfl ?_
        refine q_aload_n dX12_part_86 rfl ?_
        refine q_getX (x := (σ 168 10)) dX12_part_87 fF_RX12_139 fl_168_10 rfl ?_
        refine q_isub dX12_part_90 ?_
        refine q_iconst (v := 1) dX12_part_91 (by decide) ?_
        refine q_icmp_ne (tgt := 150) dX12_part_92 (by decide) (fun c29 => ?_) (fun c29 => ?_)
        · have h := h.1 c29
          refine q_aload_n dX12_part_150 rfl ?_
          refine q_bipush (v := 33) dX12_part_151 (by decide) ?_
          refine q_cV (d' := 0) [.int 33] [] dX12_part_153 ok_X12_isSign mk_RX12_173 rc_168 rfl (Nat.le_of_ble_eq_true rfl) (by first | decide | omega) h (fun v σ30 h => ?_)
          obtain ⟨r31, rfl, h⟩ := h
          refine q_if_eq (tgt := 205) dX12_part_156 (by decide) (fun c32 => ?_) (fun c32 => ?_)
          · have h := h.1 c32
            refine q_aload_n dX12_part_205 rfl ?_
            refine q_bipush (v := 40) dX12_part_206 (by decide) ?_
            refine q_cV (d' := 0) [.int 40] [] dX12_part_208 ok_X12_isSign mk_RX12_173 rc_168 rfl (Nat.le_of_ble_eq_true rfl) (by first | decide | omega) h (fun v σ33 h => ?_)
            obtain ⟨r34, rfl, h⟩ := h
            refine q_if_eq (tgt := 264) dX12_part_211 (by decide) (fun c35 => ?_) (fun c35 => ?_)
            · have h := h.1 c35
              refine q_aload_n dX12_part_264 rfl ?_
              refine q_iconst (v := 1) dX12_part_265 (by decide) ?_
              refine q_putXZ (F := upd (σ33 168) 13 1) dX12_part_266 fF_RX12_148 fP_12_13 fl_168_13 (by decide) rfl ?_
              exact q_vret rfl dX12_part_269 h
            · have h := h.2 c35
              refine q_aload_n dX12_part_214 rfl ?_
              refine q_getX (x := (σ33 168 14)) dX12_part_215 fF_RX12_195 fl_168_14 rfl ?_
              refine q_bipush (v := 8) dX12_part_218 (by decide) ?_
              refine q_icmp_ge (tgt := 264) dX12_part_220 (by decide) (fun c36 => ?_) (fun c36 => ?_)
              · have h := h.1 c36
                refine q_aload_n dX12_part_264 rfl ?_
                refine q_iconst (v := 1) dX12_part_265 (by decide) ?_
                refine q_putXZ (F := upd (σ33 168) 13 1) dX12_part_266 fF_RX12_148 fP_12_13 fl_168_13 (by decide) rfl ?_
                exact q_vret rfl dX12_part_269 h
              · have h := h.2 c36
                refine q_aload_n dX12_part_223 rfl ?_
                refine q_dup dX12_part_224 rfl ?_
                refine q_getX (x := (σ33 168 14)) dX12_part_225 fF_RX12_195 fl_168_14 rfl ?_
                refine q_iconst (v := 1) dX12_part_228 (by decide) ?_
                refine q_iadd dX12_part_229 ?_
                refine q_putX (F := upd (σ33 168) 14 ((σ33 168 14) + 1)) dX12_part_230 fF_RX12_195 fP_12_14 fl_168_14 rfl ?_
                refine q_aload_n dX12_part_233 rfl ?_
                refine q_cV (d' := 2) [] [] dX12_part_234 ok_X12_next mk_RX12_152 rc_168 rfl (Nat.le_of_ble_eq_true rfl) (by first | decide | omega) h (fun v σ37 h => ?_)
                obtain ⟨rfl, h⟩ := h
                refine q_aload_n dX12_part_237 rfl ?_
                refine q_cV (d' := d) [] [] dX12_part_238 ok_X12_either mk_RX12_198 rc_168 rfl (Nat.le_of_ble_eq_true rfl) (by first | decide | omega) h (fun v σ38 h => ?_)
                obtain ⟨rfl, h⟩ := h
                refine q_aload_n dX12_part_241 rfl ?_
                refine q_aload_n dX12_part_242 rfl ?_
                refine q_bipush (v := 41) dX12_part_243 (by decide) ?_
                refine q_cV (d' := 0) [.int 41] [.ref (g.2.1 168)] dX12_part_245 ok_X12_isSign mk_RX12_173 rc_168 rfl (Nat.le_of_ble_eq_true rfl) (by first | decide | omega) h (fun v σ39 h => ?_)
                obtain ⟨r40, rfl, h⟩ := h
                refine q_cV (d' := 3) [.int r40] [] dX12_part_248 ok_X12_need mk_RX12_164 rc_168 rfl (Nat.le_of_ble_eq_true rfl) (by first | decide | omega) h (fun v σ41 h => ?_)
                obtain ⟨rfl, h⟩ := h
                refine q_aload_n dX12_part_251 rfl ?_
                refine q_dup dX12_part_252 rfl ?_
                refine q_getX (x := (σ41 168 14)) dX12_part_253 fF_RX12_195 fl_168_14 rfl ?_
                refine q_iconst (v := 1) dX12_part_256 (by decide) ?_
                refine q_isub dX12_part_257 ?_
                refine q_putX (F := upd (σ41 168) 14 ((σ41 168 14) - 1)) dX12_part_258 fF_RX12_195 fP_12_14 fl_168_14 rfl ?_
                refine q_goto (tgt := 269) dX12_part_261 (by decide) ?_
                exact q_vret rfl dX12_part_269 h
          · have h := h.2 c32
            refine q_aload_n dX12_part_159 rfl ?_
            refine q_getX (x := (σ30 168 15)) dX12_part_160 fF_RX12_188 fl_168_15 rfl ?_
            refine q_bipush (v := 8) dX12_part_163 (by decide) ?_
            refine q_icmp_ge (tgt := 205) dX12_part_165 (by decide) (fun c42 => ?_) (fun c42 => ?_)
            · have h := h.1 c42
              refine q_aload_n dX12_part_205 rfl ?_
              refine q_bipush (v := 40) dX12_part_206 (by decide) ?_
              refine q_cV (d' := 0) [.int 40] [] dX12_part_208 ok_X12_isSign mk_RX12_173 rc_168 rfl (Nat.le_of_ble_eq_true rfl) (by first | decide | omega) h (fun v σ43 h => ?_)
              obtain ⟨r44, rfl, h⟩ := h
              refine q_if_eq (tgt := 264) dX12_part_211 (by decide) (fun c45 => ?_) (fun c45 => ?_)
              · have h := h.1 c45
                refine q_aload_n dX12_part_264 rfl ?_
                refine q_iconst (v := 1) dX12_part_265 (by decide) ?_
                refine q_putXZ (F := upd (σ43 168) 13 1) dX12_part_266 fF_RX12_148 fP_12_13 fl_168_13 (by decide) rfl ?_
                exact q_vret rfl dX12_part_269 h
              · have h := h.2 c45
                refine q_aload_n dX12_part_214 rfl ?_
                refine q_getX (x := (σ43 168 14)) dX12_part_215 fF_RX12_195 fl_168_14 rfl ?_
                refine q_bipush (v := 8) dX12_part_218 (by decide) ?_
                refine q_icmp_ge (tgt := 264) dX12_part_220 (by decide) (fun c46 => ?_) (fun c46 => ?_)
                · have h := h.1 c46
                  refine q_aload_n dX12_part_264 rfl ?_
                  refine q_iconst (v := 1) dX12_part_265 (by decide) ?_
                  refine q_putXZ (F := upd (σ43 168) 13 1) dX12_part_266 fF_RX12_148 fP_12_13 fl_168_13 (by decide) rfl ?_
                  exact q_vret rfl dX12_part_269 h
                · have h := h.2 c46
                  refine q_aload_n dX12_part_223 rfl ?_
                  refine q_dup dX12_part_224 rfl ?_
                  refine q_getX (x := (σ43 168 14)) dX12_part_225 fF_RX12_195 fl_168_14 rfl ?_
                  refine q_iconst (v := 1) dX12_part_228 (by decide) ?_
                  refine q_iadd dX12_part_229 ?_
                  refine q_putX (F := upd (σ43 168) 14 ((σ43 168 14) + 1)) dX12_part_230 fF_RX12_195 fP_12_14 fl_168_14 rfl ?_
                  refine q_aload_n dX12_part_233 rfl ?_
                  refine q_cV (d' := 2) [] [] dX12_part_234 ok_X12_next mk_RX12_152 rc_168 rfl (Nat.le_of_ble_eq_true rfl) (by first | decide | omega) h (fun v σ47 h => ?_)
                  obtain ⟨rfl, h⟩ := h
                  refine q_aload_n dX12_part_237 rfl ?_
                  refine q_cV (d' := d) [] [] dX12_part_238 ok_X12_either mk_RX12_198 rc_168 rfl (Nat.le_of_ble_eq_true rfl) (by first | decide | omega) h (fun v σ48 h => ?_)
                  obtain ⟨rfl, h⟩ := h
                  refine q_aload_n dX12_part_241 rfl ?_
                  refine q_aload_n dX12_part_242 rfl ?_
                  refine q_bipush (v := 41) dX12_part_243 (by decide) ?_
                  refine q_cV (d' := 0) [.int 41] [.ref (g.2.1 168)] dX12_part_245 ok_X12_isSign mk_RX12_173 rc_168 rfl (Nat.le_of_ble_eq_true rfl) (by first | decide | omega) h (fun v σ49 h => ?_)
                  obtain ⟨r50, rfl, h⟩ := h
                  refine q_cV (d' := 3) [.int r50] [] dX12_part_248 ok_X12_need mk_RX12_164 rc_168 rfl (Nat.le_of_ble_eq_true rfl) (by first | decide | omega) h (fun v σ51 h => ?_)
                  obtain ⟨rfl, h⟩ := h
                  refine q_aload_n dX12_part_251 rfl ?_
                  refine q_dup dX12_part_252 rfl ?_
                  refine q_getX (x := (σ51 168 14)) dX12_part_253 fF_RX12_195 fl_168_14 rfl ?_
                  refine q_iconst (v := 1) dX12_part_256 (by decide) ?_
                  refine q_isub dX12_part_257 ?_
                  refine q_putX (F := upd (σ51 168) 14 ((σ51 168 14) - 1)) dX12_part_258 fF_RX12_195 fP_12_14 fl_168_14 rfl ?_
                  refine q_goto (tgt := 269) dX12_part_261 (by decide) ?_
                  exact q_vret rfl dX12_part_269 h
            · have h := h.2 c42
              refine q_aload_n dX12_part_168 rfl ?_
              refine q_dup dX12_part_169 rfl ?_
              refine q_getX (x := (σ30 168 15)) dX12_part_170 fF_RX12_188 fl_168_15 rfl ?_
              refine q_iconst (v := 1) dX12_part_173 (by decide) ?_
              refine q_iadd dX12_part_174 ?_
              refine q_putX (F := upd (σ30 168) 15 ((σ30 168 15) + 1)) dX12_part_175 fF_RX12_188 fP_12_15 fl_168_15 rfl ?_
              refine q_aload_n dX12_part_178 rfl ?_
              refine q_cV (d' := 2) [] [] dX12_part_179 ok_X12_next mk_RX12_152 rc_168 rfl (Nat.le_of_ble_eq_true rfl) (by first | decide | omega) h (fun v σ52 h => ?_)
              obtain ⟨rfl, h⟩ := h
              refine q_aload_n dX12_part_182 rfl ?_
              refine q_cV (d' := d) [] [] dX12_part_183 ok_X12_part mk_RX12_191 rc_168 rfl (Nat.le_of_ble_eq_true rfl) (by first | decide | omega) h (fun v σ53 h => ?_)
              obtain ⟨rfl, h⟩ := h
              refine q_aload_n dX12_part_186 rfl ?_
              refine q_dup dX12_part_187 rfl ?_
              refine q_getX (x := (σ53 168 15)) dX12_part_188 fF_RX12_188 fl_168_15 rfl ?_
              refine q_iconst (v := 1) dX12_part_191 (by decide) ?_
              refine q_isub dX12_part_192 ?_
              refine q_putX (F := upd (σ53 168) 15 ((σ53 168 15) - 1)) dX12_part_193 fF_RX12_188 fP_12_15 fl_168_15 rfl ?_
              refine q_aload_n dX12_part_196 rfl ?_
              refine q_ldc dX12_part_197 ct_RX12_194 ?_
              refine q_cV (d' := 0) [.int 200009] [] dX12_part_199 ok_X12_put mk_RX12_176 rc_168 rfl (Nat.le_of_ble_eq_true rfl) (by first | decide | omega) h (fun v σ54 h => ?_)
              obtain ⟨rfl, h⟩ := h
              refine q_goto (tgt := 269) dX12_part_202 (by decide) ?_
              exact q_vret rfl dX12_part_269 h
        · have h := h.2 c29
          refine q_ldcS (k0 := 5) dX12_part_95 rfl ?_
          refine q_aload_n dX12_part_97 rfl ?_
          refine q_getR dX12_part_98 fF_RX12_16 fl_168_3 ?_
          refine q_aload_n dX12_part_101 rfl ?_
          refine q_getX (x := (σ 168 10)) dX12_part_102 fF_RX12_139 fl_168_10 rfl ?_
          obtain ⟨hi55, h⟩ := h
          refine q_ialdX (v := (σ 171 (σ 168 10).toNatClampNeg)) dX12_part_105 ar_171 hi55 rfl ?_
          refine q_cV (d' := 6) [.int (σ 171 (σ 168 10).toNatClampNeg)] [] dX12_part_106 ok_J0_indexOf_0f7a4 mk_RX12_184 (vt_rcvS rfl) rfl (Nat.le_of_ble_eq_true rfl) (by first | decide | omega) h (fun v σ56 h => ?_)
          obtain ⟨r57, rfl, h⟩ := h
          refine q_if_lt (tgt := 150) dX12_part_109 (by decide) (fun c58 => ?_) (fun c58 => ?_)
          · have h := h.1 c58
            refine q_aload_n dX12_part_150 rfl ?_
            refine q_bipush (v := 33) dX12_part_151 (by decide) ?_
            refine q_cV (d' := 0) [.int 33] [] dX12_part_153 ok_X12_isSign mk_RX12_173 rc_168 rfl (Nat.le_of_ble_eq_true rfl) (by first | decide | omega) h (fun v σ59 h => ?_)
            obtain ⟨r60, rfl, h⟩ := h
            refine q_if_eq (tgt := 205) dX12_part_156 (by decide) (fun c61 => ?_) (fun c61 => ?_)
            · have h := h.1 c61
              refine q_aload_n dX12_part_205 rfl ?_
              refine q_bipush (v := 40) dX12_part_206 (by decide) ?_
              refine q_cV (d' := 0) [.int 40] [] dX12_part_208 ok_X12_isSign mk_RX12_173 rc_168 rfl (Nat.le_of_ble_eq_true rfl) (by first | decide | omega) h (fun v σ62 h => ?_)
              obtain ⟨r63, rfl, h⟩ := h
              refine q_if_eq (tgt := 264) dX12_part_211 (by decide) (fun c64 => ?_) (fun c64 => ?_)
              · have h := h.1 c64
                refine q_aload_n dX12_part_264 rfl ?_
                refine q_iconst (v := 1) dX12_part_265 (by decide) ?_
                refine q_putXZ (F := upd (σ62 168) 13 1) dX12_part_266 fF_RX12_148 fP_12_13 fl_168_13 (by decide) rfl ?_
                exact q_vret rfl dX12_part_269 h
              · have h := h.2 c64
                refine q_aload_n dX12_part_214 rfl ?_
                refine q_getX (x := (σ62 168 14)) dX12_part_215 fF_RX12_195 fl_168_14 rfl ?_
                refine q_bipush (v := 8) dX12_part_218 (by decide) ?_
                refine q_icmp_ge (tgt := 264) dX12_part_220 (by decide) (fun c65 => ?_) (fun c65 => ?_)
                · have h := h.1 c65
                  refine q_aload_n dX12_part_264 rfl ?_
                  refine q_iconst (v := 1) dX12_part_265 (by decide) ?_
                  refine q_putXZ (F := upd (σ62 168) 13 1) dX12_part_266 fF_RX12_148 fP_12_13 fl_168_13 (by decide) rfl ?_
                  exact q_vret rfl dX12_part_269 h
                · have h := h.2 c65
                  refine q_aload_n dX12_part_223 rfl ?_
                  refine q_dup dX12_part_224 rfl ?_
                  refine q_getX (x := (σ62 168 14)) dX12_part_225 fF_RX12_195 fl_168_14 rfl ?_
                  refine q_iconst (v := 1) dX12_part_228 (by decide) ?_
                  refine q_iadd dX12_part_229 ?_
                  refine q_putX (F := upd (σ62 168) 14 ((σ62 168 14) + 1)) dX12_part_230 fF_RX12_195 fP_12_14 fl_168_14 rfl ?_
                  refine q_aload_n dX12_part_233 rfl ?_
                  refine q_cV (d' := 2) [] [] dX12_part_234 ok_X12_next mk_RX12_152 rc_168 rfl (Nat.le_of_ble_eq_true rfl) (by first | decide | omega) h (fun v σ66 h => ?_)
                  obtain ⟨rfl, h⟩ := h
                  refine q_aload_n dX12_part_237 rfl ?_
                  refine q_cV (d' := d) [] [] dX12_part_238 ok_X12_either mk_RX12_198 rc_168 rfl (Nat.le_of_ble_eq_true rfl) (by first | decide | omega) h (fun v σ67 h => ?_)
                  obtain ⟨rfl, h⟩ := h
                  refine q_aload_n dX12_part_241 rfl ?_
                  refine q_aload_n dX12_part_242 rfl ?_
                  refine q_bipush (v := 41) dX12_part_243 (by decide) ?_
                  refine q_cV (d' := 0) [.int 41] [.ref (g.2.1 168)] dX12_part_245 ok_X12_isSign mk_RX12_173 rc_168 rfl (Nat.le_of_ble_eq_true rfl) (by first | decide | omega) h (fun v σ68 h => ?_)
                  obtain ⟨r69, rfl, h⟩ := h
                  refine q_cV (d' := 3) [.int r69] [] dX12_part_248 ok_X12_need mk_RX12_164 rc_168 rfl (Nat.le_of_ble_eq_true rfl) (by first | decide | omega) h (fun v σ70 h => ?_)
                  obtain ⟨rfl, h⟩ := h
                  refine q_aload_n dX12_part_251 rfl ?_
                  refine q_dup dX12_part_252 rfl ?_
                  refine q_getX (x := (σ70 168 14)) dX12_part_253 fF_RX12_195 fl_168_14 rfl ?_
                  refine q_iconst (v := 1) dX12_part_256 (by decide) ?_
                  refine q_isub dX12_part_257 ?_
                  refine q_putX (F := upd (σ70 168) 14 ((σ70 168 14) - 1)) dX12_part_258 fF_RX12_195 fP_12_14 fl_168_14 rfl ?_
                  refine q_goto (tgt := 269) dX12_part_261 (by decide) ?_
                  exact q_vret rfl dX12_part_269 h
            · have h := h.2 c61
              refine q_aload_n dX12_part_159 rfl ?_
              refine q_getX (x := (σ59 168 15)) dX12_part_160 fF_RX12_188 fl_168_15 rfl ?_
              refine q_bipush (v := 8) dX12_part_163 (by decide) ?_
              refine q_icmp_ge (tgt := 205) dX12_part_165 (by decide) (fun c71 => ?_) (fun c71 => ?_)
              · have h := h.1 c71
                refine q_aload_n dX12_part_205 rfl ?_
                refine q_bipush (v := 40) dX12_part_206 (by decide) ?_
                refine q_cV (d' := 0) [.int 40] [] dX12_part_208 ok_X12_isSign mk_RX12_173 rc_168 rfl (Nat.le_of_ble_eq_true rfl) (by first | decide | omega) h (fun v σ72 h => ?_)
                obtain ⟨r73, rfl, h⟩ := h
                refine q_if_eq (tgt := 264) dX12_part_211 (by decide) (fun c74 => ?_) (fun c74 => ?_)
                · have h := h.1 c74
                  refine q_aload_n dX12_part_264 rfl ?_
                  refine q_iconst (v := 1) dX12_part_265 (by decide) ?_
                  refine q_putXZ (F := upd (σ72 168) 13 1) dX12_part_266 fF_RX12_148 fP_12_13 fl_168_13 (by decide) rfl ?_
                  exact q_vret rfl dX12_part_269 h
                · have h := h.2 c74
                  refine q_aload_n dX12_part_214 rfl ?_
                  refine q_getX (x := (σ72 168 14)) dX12_part_215 fF_RX12_195 fl_168_14 rfl ?_
                  refine q_bipush (v := 8) dX12_part_218 (by decide) ?_
                  refine q_icmp_ge (tgt := 264) dX12_part_220 (by decide) (fun c75 => ?_) (fun c75 => ?_)
                  · have h := h.1 c75
                    refine q_aload_n dX12_part_264 rfl ?_
                    refine q_iconst (v := 1) dX12_part_265 (by decide) ?_
                    refine q_putXZ (F := upd (σ72 168) 13 1) dX12_part_266 fF_RX12_148 fP_12_13 fl_168_13 (by decide) rfl ?_
                    exact q_vret rfl dX12_part_269 h
                  · have h := h.2 c75
                    refine q_aload_n dX12_part_223 rfl ?_
                    refine q_dup dX12_part_224 rfl ?_
                    refine q_getX (x := (σ72 168 14)) dX12_part_225 fF_RX12_195 fl_168_14 rfl ?_
                    refine q_iconst (v := 1) dX12_part_228 (by decide) ?_
                    refine q_iadd dX12_part_229 ?_
                    refine q_putX (F := upd (σ72 168) 14 ((σ72 168 14) + 1)) dX12_part_230 fF_RX12_195 fP_12_14 fl_168_14 rfl ?_
                    refine q_aload_n dX12_part_233 rfl ?_
                    refine q_cV (d' := 2) [] [] dX12_part_234 ok_X12_next mk_RX12_152 rc_168 rfl (Nat.le_of_ble_eq_true rfl) (by first | decide | omega) h (fun v σ76 h => ?_)
                    obtain ⟨rfl, h⟩ := h
                    refine q_aload_n dX12_part_237 rfl ?_
                    refine q_cV (d' := d) [] [] dX12_part_238 ok_X12_either mk_RX12_198 rc_168 rfl (Nat.le_of_ble_eq_true rfl) (by first | decide | omega) h (fun v σ77 h => ?_)
                    obtain ⟨rfl, h⟩ := h
                    refine q_aload_n dX12_part_241 rfl ?_
                    refine q_aload_n dX12_part_242 rfl ?_
                    refine q_bipush (v := 41) dX12_part_243 (by decide) ?_
                    refine q_cV (d' := 0) [.int 41] [.ref (g.2.1 168)] dX12_part_245 ok_X12_isSign mk_RX12_173 rc_168 rfl (Nat.le_of_ble_eq_true rfl) (by first | decide | omega) h (fun v σ78 h => ?_)
                    obtain ⟨r79, rfl, h⟩ := h
                    refine q_cV (d' := 3) [.int r79] [] dX12_part_248 ok_X12_need mk_RX12_164 rc_168 rfl (Nat.le_of_ble_eq_true rfl) (by first | decide | omega) h (fun v σ80 h => ?_)
                    obtain ⟨rfl, h⟩ := h
                    refine q_aload_n dX12_part_251 rfl ?_
                    refine q_dup dX12_part_252 rfl ?_
                    refine q_getX (x := (σ80 168 14)) dX12_part_253 fF_RX12_195 fl_168_14 rfl ?_
                    refine q_iconst (v := 1) dX12_part_256 (by decide) ?_
                    refine q_isub dX12_part_257 ?_
                    refine q_putX (F := upd (σ80 168) 14 ((σ80 168 14) - 1)) dX12_part_258 fF_RX12_195 fP_12_14 fl_168_14 rfl ?_
                    refine q_goto (tgt := 269) dX12_part_261 (by decide) ?_
                    exact q_vret rfl dX12_part_269 h
              · have h := h.2 c71
                refine q_aload_n dX12_part_168 rfl ?_
                refine q_dup dX12_part_169 rfl ?_
                refine q_getX (x := (σ59 168 15)) dX12_part_170 fF_RX12_188 fl_168_15 rfl ?_
                refine q_iconst (v := 1) dX12_part_173 (by decide) ?_
                refine q_iadd dX12_part_174 ?_
                refine q_putX (F := upd (σ59 168) 15 ((σ59 168 15) + 1)) dX12_part_175 fF_RX12_188 fP_12_15 fl_168_15 rfl ?_
                refine q_aload_n dX12_part_178 rfl ?_
                refine q_cV (d' := 2) [] [] dX12_part_179 ok_X12_next mk_RX12_152 rc_168 rfl (Nat.le_of_ble_eq_true rfl) (by first | decide | omega) h (fun v σ81 h => ?_)
                obtain ⟨rfl, h⟩ := h
                refine q_aload_n dX12_part_182 rfl ?_
                refine q_cV (d' := d) [] [] dX12_part_183 ok_X12_part mk_RX12_191 rc_168 rfl (Nat.le_of_ble_eq_true rfl) (by first | decide | omega) h (fun v σ82 h => ?_)
                obtain ⟨rfl, h⟩ := h
                refine q_aload_n dX12_part_186 rfl ?_
                refine q_dup dX12_part_187 rfl ?_
                refine q_getX (x := (σ82 168 15)) dX12_part_188 fF_RX12_188 fl_168_15 rfl ?_
                refine q_iconst (v := 1) dX12_part_191 (by decide) ?_
                refine q_isub dX12_part_192 ?_
                refine q_putX (F := upd (σ82 168) 15 ((σ82 168 15) - 1)) dX12_part_193 fF_RX12_188 fP_12_15 fl_168_15 rfl ?_
                refine q_aload_n dX12_part_196 rfl ?_
                refine q_ldc dX12_part_197 ct_RX12_194 ?_
                refine q_cV (d' := 0) [.int 200009] [] dX12_part_199 ok_X12_put mk_RX12_176 rc_168 rfl (Nat.le_of_ble_eq_true rfl) (by first | decide | omega) h (fun v σ83 h => ?_)
                obtain ⟨rfl, h⟩ := h
                refine q_goto (tgt := 269) dX12_part_202 (by decide) ?_
                exact q_vret rfl dX12_part_269 h
          · have h := h.2 c58
            refine q_aload_n dX12_part_112 rfl ?_
            refine q_ldc dX12_part_113 ct_RX12_187 ?_
            refine q_ldcS (k0 := 5) dX12_part_115 rfl ?_
            refine q_aload_n dX12_part_117 rfl ?_
            refine q_getR dX12_part_118 fF_RX12_16 fl_168_3 ?_
            refine q_aload_n dX12_part_121 rfl ?_
            refine q_getX (x := (σ56 168 10)) dX12_part_122 fF_RX12_139 fl_168_10 rfl ?_
            obtain ⟨hi84, h⟩ := h
            refine q_ialdX (v := (σ56 171 (σ56 168 10).toNatClampNeg)) dX12_part_125 ar_171 hi84 rfl ?_
            refine q_cV (d' := 6) [.int (σ56 171 (σ56 168 10).toNatClampNeg)] [.int 100000, .ref (g.2.1 168)] dX12_part_126 ok_J0_indexOf_0f7a4 mk_RX12_184 (vt_rcvS rfl) rfl (Nat.le_of_ble_eq_true rfl) (by first | decide | omega) h (fun v σ85 h => ?_)
            obtain ⟨r86, rfl, h⟩ := h
            refine q_iadd dX12_part_129 ?_
            refine q_cV (d' := 0) [.int (100000 + r86)] [] dX12_part_130 ok_X12_put mk_RX12_176 rc_168 rfl (Nat.le_of_ble_eq_true rfl) (by first | decide | omega) h (fun v σ87 h => ?_)
            obtain ⟨rfl, h⟩ := h
            refine q_aload_n dX12_part_133 rfl ?_
            refine q_dup dX12_part_134 rfl ?_
            refine q_getX (x := (σ87 168 18)) dX12_part_135 fF_RX12_179 fl_168_18 rfl ?_
            refine q_iconst (v := 1) dX12_part_138 (by decide) ?_
            refine q_iadd dX12_part_139 ?_
            refine q_putX (F := upd (σ87 168) 18 ((σ87 168 18) + 1)) dX12_part_140 fF_RX12_179 fP_12_18 fl_168_18 rfl ?_
            refine q_aload_n dX12_part_143 rfl ?_
            refine q_cV (d' := 2) [] [] dX12_part_144 ok_X12_next mk_RX12_152 rc_168 rfl (Nat.le_of_ble_eq_true rfl) (by first | decide | omega) h (fun v σ88 h => ?_)
            obtain ⟨rfl, h⟩ := h
            refine q_goto (tgt := 269) dX12_part_147 (by decide) ?_
            exact q_vret rfl dX12_part_269 h
    · have h := h.2 c2
      refine q_iconst (v := 0) dX12_part_16 (by decide) ?_
      refine q_istore_n (L' := [some (.ref (g.2.1 168)), some (.int 0), none]) dX12_part_17 (by decide) rfl rfl ?_
      refine q_aload_n dX12_part_18 rfl ?_
      refine q_getX (x := (σ 168 10)) dX12_part_19 fF_RX12_139 fl_168_10 rfl ?_
      refine q_istore_n (L' := [some (.ref (g.2.1 168)), some (.int 0), some (.int (σ 168 10))]) dX12_part_22 (by decide) rfl rfl ?_
      exact h
  · have h := h.2 c1
    exact q_vret rfl dX12_part_7 h

theorem s_X12_part_23 (g : vt_GT) (σ : vt_Sg) (P : Option Value → vt_Sg → Prop) (d : Nat) (hd : 9 ≤ d) (x1 : Int32) (x2 : Int32)
  (h : ((σ 168 11) ≤ x2 → vt_Mv g 0 D_X12_put [.ref (g.2.1 168), .int x1] σ (fun σ2 => vt_Mv g 2 D_X12_next [.ref (g.2.1 168)] (su σ2 168 (upd (σ2 168) 18 ((σ2 168 18) + 1))) (fun σ3 => P none σ3))) ∧ (¬ (σ 168 11) ≤ x2 → vp_in x2 132 ∧ (TT g (vt_R (d + 1)) 0 0 D_X12_part none 23 [some (.ref (g.2.1 168)), some (.int (((10 * x1) + (σ 171 x2.toNatClampNeg)) - 48)), some (.int (x2 + 1))] [] σ P))) :
  TT g (vt_R (d + 1)) 0 0 D_X12_part none 23 [some (.ref (g.2.1 168)), some (.int x1), some (.int x2)] [] σ P := by
  refine q_iload_n dX12_part_23 rfl ?_
  refine q_aload_n dX12_part_24 rfl ?_
  refine q_getX (x := (σ 168 11)) dX12_part_25 fF_RX12_136 fl_168_11 rfl ?_
  refine q_icmp_ge (tgt := 52) dX12_part_28 (by decide) (fun c1 => ?_) (fun c1 => ?_)
  · have h := h.1 c1
    refine q_aload_n dX12_part_52 rfl ?_
    refine q_iload_n dX12_part_53 rfl ?_
    refine q_cV (d' := 0) [.int x1] [] dX12_part_54 ok_X12_put mk_RX12_176 rc_168 rfl (Nat.le_of_ble_eq_true rfl) (by first | decide | omega) h (fun v σ2 h => ?_)
    obtain ⟨rfl, h⟩ := h
    refine q_aload_n dX12_part_57 rfl ?_
    refine q_dup dX12_part_58 rfl ?_
    refine q_getX (x := (σ2 168 18)) dX12_part_59 fF_RX12_179 fl_168_18 rfl ?_
    refine q_iconst (v := 1) dX12_part_62 (by decide) ?_
    refine q_iadd dX12_part_63 ?_
    refine q_putX (F := upd (σ2 168) 18 ((σ2 168 18) + 1)) dX12_part_64 fF_RX12_179 fP_12_18 fl_168_18 rfl ?_
    refine q_aload_n dX12_part_67 rfl ?_
    refine q_cV (d' := 2) [] [] dX12_part_68 ok_X12_next mk_RX12_152 rc_168 rfl (Nat.le_of_ble_eq_true rfl) (by first | decide | omega) h (fun v σ3 h => ?_)
    obtain ⟨rfl, h⟩ := h
    refine q_goto (tgt := 269) dX12_part_71 (by decide) ?_
    exact q_vret rfl dX12_part_269 h
  · have h := h.2 c1
    refine q_bipush (v := 10) dX12_part_31 (by decide) ?_
    refine q_iload_n dX12_part_33 rfl ?_
    refine q_imul dX12_part_34 ?_
    refine q_aload_n dX12_part_35 rfl ?_
    refine q_getR dX12_part_36 fF_RX12_16 fl_168_3 ?_
    refine q_iload_n dX12_part_39 rfl ?_
    obtain ⟨hi4, h⟩ := h
    refine q_ialdX (v := (σ 171 x2.toNatClampNeg)) dX12_part_40 ar_171 hi4 rfl ?_
    refine q_iadd dX12_part_41 ?_
    refine q_bipush (v := 48) dX12_part_42 (by decide) ?_
    refine q_isub dX12_part_44 ?_
    refine q_istore_n (L' := [some (.ref (g.2.1 168)), some (.int (((10 * x1) + (σ 171 x2.toNatClampNeg)) - 48)), some (.int x2)]) dX12_part_45 (by decide) rfl rfl ?_
    refine q_iinc (L' := [some (.ref (g.2.1 168)), some (.int (((10 * x1) + (σ 171 x2.toNatClampNeg)) - 48)), some (.int (x2 + 1))]) dX12_part_46 rfl (by decide) rfl rfl ?_
    refine q_goto (tgt := 23) dX12_part_49 (by decide) ?_
    exact h

theorem s_X12_term_0 (g : vt_GT) (σ : vt_Sg) (P : Option Value → vt_Sg → Prop) (d : Nat) (hd : 9 ≤ d) 
  (h : vt_Mv g d D_X12_part [.ref (g.2.1 168)] σ (fun σ1 => vt_Mi g 5 D_X12_signHere [.ref (g.2.1 168), .int 7, .int 8] σ1 (fun r3 σ2 => TT g (vt_R (d + 1)) 0 0 D_X12_term none 13 [some (.ref (g.2.1 168)), some (.int r3)] [] σ2 P))) :
  TT g (vt_R (d + 1)) 0 0 D_X12_term none 0 [some (.ref (g.2.1 168)), none] [] σ P := by
  refine q_aload_n dX12_term_0 rfl ?_
  refine q_cV (d' := d) [] [] dX12_term_1 ok_X12_part mk_RX12_191 rc_168 rfl (Nat.le_of_ble_eq_true rfl) (by first | decide | omega) h (fun v σ1 h => ?_)
  obtain ⟨rfl, h⟩ := h
  refine q_aload_n dX12_term_4 rfl ?_
  refine q_bipush (v := 7) dX12_term_5 (by decide) ?_
  refine q_bipush (v := 8) dX12_term_7 (by decide) ?_
  refine q_cV (d' := 5) [.int 7, .int 8] [] dX12_term_9 ok_X12_signHere mk_RX12_201 rc_168 rfl (Nat.le_of_ble_eq_true rfl) (by first | decide | omega) h (fun v σ2 h => ?_)
  obtain ⟨r3, rfl, h⟩ := h
  refine q_istore_n (L' := [some (.ref (g.2.1 168)), some (.int r3)]) dX12_term_12 (by decide) rfl rfl ?_
  exact h

theorem s_X12_term_13 (g : vt_GT) (σ : vt_Sg) (P : Option Value → vt_Sg → Prop) (d : Nat) (hd : 9 ≤ d) (x1 : Int32)
  (h : (x1 < 0 → P none σ) ∧ (¬ x1 < 0 → vt_Mv g 2 D_X12_next [.ref (g.2.1 168)] σ (fun σ2 => vt_Mv g d D_X12_part [.ref (g.2.1 168)] σ2 (fun σ3 => vt_Mv g 0 D_X12_put [.ref (g.2.1 168), .int (200000 + x1)] σ3 (fun σ4 => vt_Mi g 5 D_X12_signHere [.ref (g.2.1 168), .int 7, .int 8] σ4 (fun r6 σ5 => TT g (vt_R (d + 1)) 0 0 D_X12_term none 13 [some (.ref (g.2.1 168)), some (.int r6)] [] σ5 P)))))) :
  TT g (vt_R (d + 1)) 0 0 D_X12_term none 13 [some (.ref (g.2.1 168)), some (.int x1)] [] σ P := by
  refine q_iload_n dX12_term_13 rfl ?_
  refine q_if_lt (tgt := 45) dX12_term_14 (by decide) (fun c1 => ?_) (fun c1 => ?_)
  · have h := h.1 c1
    exact q_vret rfl dX12_term_45 h
  · have h := h.2 c1
    refine q_aload_n dX12_term_17 rfl ?_
    refine q_cV (d' := 2) [] [] dX12_term_18 ok_X12_next mk_RX12_152 rc_168 rfl (Nat.le_of_ble_eq_true rfl) (by first | decide | omega) h (fun v σ2 h => ?_)
    obtain ⟨rfl, h⟩ := h
    refine q_aload_n dX12_term_21 rfl ?_
    refine q_cV (d' := d) [] [] dX12_term_22 ok_X12_part mk_RX12_191 rc_168 rfl (Nat.le_of_ble_eq_true rfl) (by first | decide | omega) h (fun v σ3 h => ?_)
    obtain ⟨rfl, h⟩ := h
    refine q_aload_n dX12_term_25 rfl ?_
    refine q_ldc dX12_term_26 ct_RX12_204 ?_
    refine q_iload_n dX12_term_28 rfl ?_
    refine q_iadd dX12_term_29 ?_
    refine q_cV (d' := 0) [.int (200000 + x1)] [] dX12_term_30 ok_X12_put mk_RX12_176 rc_168 rfl (Nat.le_of_ble_eq_true rfl) (by first | decide | omega) h (fun v σ4 h => ?_)
    obtain ⟨rfl, h⟩ := h
    refine q_aload_n dX12_term_33 rfl ?_
    refine q_bipush (v := 7) dX12_term_34 (by decide) ?_
    refine q_bipush (v := 8) dX12_term_36 (by decide) ?_
    refine q_cV (d' := 5) [.int 7, .int 8] [] dX12_term_38 ok_X12_signHere mk_RX12_201 rc_168 rfl (Nat.le_of_ble_eq_true rfl) (by first | decide | omega) h (fun v σ5 h => ?_)
    obtain ⟨r6, rfl, h⟩ := h
    refine q_istore_n (L' := [some (.ref (g.2.1 168)), some (.int r6)]) dX12_term_41 (by decide) rfl rfl ?_
    refine q_goto (tgt := 13) dX12_term_42 (by decide) ?_
    exact h

theorem s_X12_sum_0 (g : vt_GT) (σ : vt_Sg) (P : Option Value → vt_Sg → Prop) (d : Nat) (hd : 9 ≤ d) 
  (h : vt_Mv g d D_X12_term [.ref (g.2.1 168)] σ (fun σ1 => vt_Mi g 5 D_X12_signHere [.ref (g.2.1 168), .int 5, .int 6] σ1 (fun r3 σ2 => TT g (vt_R (d + 1)) 0 0 D_X12_sum none 12 [some (.ref (g.2.1 168)), some (.int r3)] [] σ2 P))) :
  TT g (vt_R (d + 1)) 0 0 D_X12_sum none 0 [some (.ref (g.2.1 168)), none] [] σ P := by
  refine q_aload_n dX12_sum_0 rfl ?_
  refine q_cV (d' := d) [] [] dX12_sum_1 ok_X12_term mk_RX12_205 rc_168 rfl (Nat.le_of_ble_eq_true rfl) (by first | decide | omega) h (fun v σ1 h => ?_)
  obtain ⟨rfl, h⟩ := h
  refine q_aload_n dX12_sum_4 rfl ?_
  refine q_iconst (v := 5) dX12_sum_5 (by decide) ?_
  refine q_bipush (v := 6) dX12_sum_6 (by decide) ?_
  refine q_cV (d' := 5) [.int 5, .int 6] [] dX12_sum_8 ok_X12_signHere mk_RX12_201 rc_168 rfl (Nat.le_of_ble_eq_true rfl) (by first | decide | omega) h (fun v σ2 h => ?_)
  obtain ⟨r3, rfl, h⟩ := h
  refine q_istore_n (L' := [some (.ref (g.2.1 168)), some (.int r3)]) dX12_sum_11 (by decide) rfl rfl ?_
  exact h

theorem s_X12_sum_12 (g : vt_GT) (σ : vt_Sg) (P : Option Value → vt_Sg → Prop) (d : Nat) (hd : 9 ≤ d) (x1 : Int32)
  (h : (x1 < 0 → P none σ) ∧ (¬ x1 < 0 → vt_Mv g 2 D_X12_next [.ref (g.2.1 168)] σ (fun σ2 => vt_Mv g d D_X12_term [.ref (g.2.1 168)] σ2 (fun σ3 => vt_Mv g 0 D_X12_put [.ref (g.2.1 168), .int (200000 + x1)] σ3 (fun σ4 => vt_Mi g 5 D_X12_signHere [.ref (g.2.1 168), .int 5, .int 6] σ4 (fun r6 σ5 => TT g (vt_R (d + 1)) 0 0 D_X12_sum none 12 [some (.ref (g.2.1 168)), some (.int r6)] [] σ5 P)))))) :
  TT g (vt_R (d + 1)) 0 0 D_X12_sum none 12 [some (.ref (g.2.1 168)), some (.int x1)] [] σ P := by
  refine q_iload_n dX12_sum_12 rfl ?_
  refine q_if_lt (tgt := 43) dX12_sum_13 (by decide) (fun c1 => ?_) (fun c1 => ?_)
  · have h := h.1 c1
    exact q_vret rfl dX12_sum_43 h
  · have h := h.2 c1
    refine q_aload_n dX12_sum_16 rfl ?_
    refine q_cV (d' := 2) [] [] dX12_sum_17 ok_X12_next mk_RX12_152 rc_168 rfl (Nat.le_of_ble_eq_true rfl) (by first | decide | omega) h (fun v σ2 h => ?_)
    obtain ⟨rfl, h⟩ := h
    refine q_aload_n dX12_sum_20 rfl ?_
    refine q_cV (d' := d) [] [] dX12_sum_21 ok_X12_term mk_RX12_205 rc_168 rfl (Nat.le_of_ble_eq_true rfl) (by first | decide | omega) h (fun v σ3 h => ?_)
    obtain ⟨rfl, h⟩ := h
    refine q_aload_n dX12_sum_24 rfl ?_
    refine q_ldc dX12_sum_25 ct_RX12_204 ?_
    refine q_iload_n dX12_sum_27 rfl ?_
    refine q_iadd dX12_sum_28 ?_
    refine q_cV (d' := 0) [.int (200000 + x1)] [] dX12_sum_29 ok_X12_put mk_RX12_176 rc_168 rfl (Nat.le_of_ble_eq_true rfl) (by first | decide | omega) h (fun v σ4 h => ?_)
    obtain ⟨rfl, h⟩ := h
    refine q_aload_n dX12_sum_32 rfl ?_
    refine q_iconst (v := 5) dX12_sum_33 (by decide) ?_
    refine q_bipush (v := 6) dX12_sum_34 (by decide) ?_
    refine q_cV (d' := 5) [.int 5, .int 6] [] dX12_sum_36 ok_X12_signHere mk_RX12_201 rc_168 rfl (Nat.le_of_ble_eq_true rfl) (by first | decide | omega) h (fun v σ5 h => ?_)
    obtain ⟨r6, rfl, h⟩ := h
    refine q_istore_n (L' := [some (.ref (g.2.1 168)), some (.int r6)]) dX12_sum_39 (by decide) rfl rfl ?_
    refine q_goto (tgt := 12) dX12_sum_40 (by decide) ?_
    exact h

theorem s_X12_test_0 (g : vt_GT) (σ : vt_Sg) (P : Option Value → vt_Sg → Prop) (d : Nat) (hd : 9 ≤ d) 
  (h : vt_Mv g d D_X12_sum [.ref (g.2.1 168)] σ (fun σ1 => vt_Mi g 5 D_X12_signHere [.ref (g.2.1 168), .int 2, .int 4] σ1 (fun r3 σ2 => (r3 < 0 → P none σ2) ∧ (¬ r3 < 0 → vt_Mv g 2 D_X12_next [.ref (g.2.1 168)] σ2 (fun σ5 => vt_Mv g d D_X12_sum [.ref (g.2.1 168)] σ5 (fun σ6 => vt_Mv g 0 D_X12_put [.ref (g.2.1 168), .int (200000 + r3)] σ6 (fun σ7 => P none σ7))))))) :
  TT g (vt_R (d + 1)) 0 0 D_X12_test none 0 [some (.ref (g.2.1 168)), none] [] σ P := by
  refine q_aload_n dX12_test_0 rfl ?_
  refine q_cV (d' := d) [] [] dX12_test_1 ok_X12_sum mk_RX12_208 rc_168 rfl (Nat.le_of_ble_eq_true rfl) (by first | decide | omega) h (fun v σ1 h => ?_)
  obtain ⟨rfl, h⟩ := h
  refine q_aload_n dX12_test_4 rfl ?_
  refine q_iconst (v := 2) dX12_test_5 (by decide) ?_
  refine q_iconst (v := 4) dX12_test_6 (by decide) ?_
  refine q_cV (d' := 5) [.int 2, .int 4] [] dX12_test_7 ok_X12_signHere mk_RX12_201 rc_168 rfl (Nat.le_of_ble_eq_true rfl) (by first | decide | omega) h (fun v σ2 h => ?_)
  obtain ⟨r3, rfl, h⟩ := h
  refine q_istore_n (L' := [some (.ref (g.2.1 168)), some (.int r3)]) dX12_test_10 (by decide) rfl rfl ?_
  refine q_iload_n dX12_test_11 rfl ?_
  refine q_if_lt (tgt := 31) dX12_test_12 (by decide) (fun c4 => ?_) (fun c4 => ?_)
  · have h := h.1 c4
    exact q_vret rfl dX12_test_31 h
  · have h := h.2 c4
    refine q_aload_n dX12_test_15 rfl ?_
    refine q_cV (d' := 2) [] [] dX12_test_16 ok_X12_next mk_RX12_152 rc_168 rfl (Nat.le_of_ble_eq_true rfl) (by first | decide | omega) h (fun v σ5 h => ?_)
    obtain ⟨rfl, h⟩ := h
    refine q_aload_n dX12_test_19 rfl ?_
    refine q_cV (d' := d) [] [] dX12_test_20 ok_X12_sum mk_RX12_208 rc_168 rfl (Nat.le_of_ble_eq_true rfl) (by first | decide | omega) h (fun v σ6 h => ?_)
    obtain ⟨rfl, h⟩ := h
    refine q_aload_n dX12_test_23 rfl ?_
    refine q_ldc dX12_test_24 ct_RX12_204 ?_
    refine q_iload_n dX12_test_26 rfl ?_
    refine q_iadd dX12_test_27 ?_
    refine q_cV (d' := 0) [.int (200000 + r3)] [] dX12_test_28 ok_X12_put mk_RX12_176 rc_168 rfl (Nat.le_of_ble_eq_true rfl) (by first | decide | omega) h (fun v σ7 h => ?_)
    obtain ⟨rfl, h⟩ := h
    exact q_vret rfl dX12_test_31 h

theorem s_X12_both_0 (g : vt_GT) (σ : vt_Sg) (P : Option Value → vt_Sg → Prop) (d : Nat) (hd : 9 ≤ d) 
  (h : vt_Mv g d D_X12_test [.ref (g.2.1 168)] σ (fun σ1 => TT g (vt_R (d + 1)) 0 0 D_X12_both none 4 [some (.ref (g.2.1 168))] [] σ1 P)) :
  TT g (vt_R (d + 1)) 0 0 D_X12_both none 0 [some (.ref (g.2.1 168))] [] σ P := by
  refine q_aload_n dX12_both_0 rfl ?_
  refine q_cV (d' := d) [] [] dX12_both_1 ok_X12_test mk_RX12_211 rc_168 rfl (Nat.le_of_ble_eq_true rfl) (by first | decide | omega) h (fun v σ1 h => ?_)
  obtain ⟨rfl, h⟩ := h
  exact h

theorem s_X12_both_4 (g : vt_GT) (σ : vt_Sg) (P : Option Value → vt_Sg → Prop) (d : Nat) (hd : 9 ≤ d) 
  (h : vt_Mi g 5 D_X12_signHere [.ref (g.2.1 168), .int 1, .int 1] σ (fun r2 σ1 => (r2 < 0 → P none σ1) ∧ (¬ r2 < 0 → vt_Mv g 2 D_X12_next [.ref (g.2.1 168)] σ1 (fun σ4 => vt_Mv g d D_X12_test [.ref (g.2.1 168)] σ4 (fun σ5 => vt_Mv g 0 D_X12_put [.ref (g.2.1 168), .int 200001] σ5 (fun σ6 => TT g (vt_R (d + 1)) 0 0 D_X12_both none 4 [some (.ref (g.2.1 168))] [] σ6 P)))))) :
  TT g (vt_R (d + 1)) 0 0 D_X12_both none 4 [some (.ref (g.2.1 168))] [] σ P := by
  refine q_aload_n dX12_both_4 rfl ?_
  refine q_iconst (v := 1) dX12_both_5 (by decide) ?_
  refine q_iconst (v := 1) dX12_both_6 (by decide) ?_
  refine q_cV (d' := 5) [.int 1, .int 1] [] dX12_both_7 ok_X12_signHere mk_RX12_201 rc_168 rfl (Nat.le_of_ble_eq_true rfl) (by first | decide | omega) h (fun v σ1 h => ?_)
  obtain ⟨r2, rfl, h⟩ := h
  refine q_if_lt (tgt := 30) dX12_both_10 (by decide) (fun c3 => ?_) (fun c3 => ?_)
  · have h := h.1 c3
    exact q_vret rfl dX12_both_30 h
  · have h := h.2 c3
    refine q_aload_n dX12_both_13 rfl ?_
    refine q_cV (d' := 2) [] [] dX12_both_14 ok_X12_next mk_RX12_152 rc_168 rfl (Nat.le_of_ble_eq_true rfl) (by first | decide | omega) h (fun v σ4 h => ?_)
    obtain ⟨rfl, h⟩ := h
    refine q_aload_n dX12_both_17 rfl ?_
    refine q_cV (d' := d) [] [] dX12_both_18 ok_X12_test mk_RX12_211 rc_168 rfl (Nat.le_of_ble_eq_true rfl) (by first | decide | omega) h (fun v σ5 h => ?_)
    obtain ⟨rfl, h⟩ := h
    refine q_aload_n dX12_both_21 rfl ?_
    refine q_ldc dX12_both_22 ct_RX12_214 ?_
    refine q_cV (d' := 0) [.int 200001] [] dX12_both_24 ok_X12_put mk_RX12_176 rc_168 rfl (Nat.le_of_ble_eq_true rfl) (by first | decide | omega) h (fun v σ6 h => ?_)
    obtain ⟨rfl, h⟩ := h
    refine q_goto (tgt := 4) dX12_both_27 (by decide) ?_
    exact h

theorem s_X12_either_0 (g : vt_GT) (σ : vt_Sg) (P : Option Value → vt_Sg → Prop) (d : Nat) (hd : 9 ≤ d) 
  (h : vt_Mv g d D_X12_both [.ref (g.2.1 168)] σ (fun σ1 => TT g (vt_R (d + 1)) 0 0 D_X12_either none 4 [some (.ref (g.2.1 168))] [] σ1 P)) :
  TT g (vt_R (d + 1)) 0 0 D_X12_either none 0 [some (.ref (g.2.1 168))] [] σ P := by
  refine q_aload_n dX12_either_0 rfl ?_
  refine q_cV (d' := d) [] [] dX12_either_1 ok_X12_both mk_RX12_215 rc_168 rfl (Nat.le_of_ble_eq_true rfl) (by first | decide | omega) h (fun v σ1 h => ?_)
  obtain ⟨rfl, h⟩ := h
  exact h

theorem s_X12_either_4 (g : vt_GT) (σ : vt_Sg) (P : Option Value → vt_Sg → Prop) (d : Nat) (hd : 9 ≤ d) 
  (h : vt_Mi g 5 D_X12_signHere [.ref (g.2.1 168), .int 0, .int 0] σ (fun r2 σ1 => (r2 < 0 → P none σ1) ∧ (¬ r2 < 0 → vt_Mv g 2 D_X12_next [.ref (g.2.1 168)] σ1 (fun σ4 => vt_Mv g d D_X12_both [.ref (g.2.1 168)] σ4 (fun σ5 => vt_Mv g 0 D_X12_put [.ref (g.2.1 168), .int 200000] σ5 (fun σ6 => TT g (vt_R (d + 1)) 0 0 D_X12_either none 4 [some (.ref (g.2.1 168))] [] σ6 P)))))) :
  TT g (vt_R (d + 1)) 0 0 D_X12_either none 4 [some (.ref (g.2.1 168))] [] σ P := by
  refine q_aload_n dX12_either_4 rfl ?_
  refine q_iconst (v := 0) dX12_either_5 (by decide) ?_
  refine q_iconst (v := 0) dX12_either_6 (by decide) ?_
  refine q_cV (d' := 5) [.int 0, .int 0] [] dX12_either_7 ok_X12_signHere mk_RX12_201 rc_168 rfl (Nat.le_of_ble_eq_true rfl) (by first | decide | omega) h (fun v σ1 h => ?_)
  obtain ⟨r2, rfl, h⟩ := h
  refine q_if_lt (tgt := 30) dX12_either_10 (by decide) (fun c3 => ?_) (fun c3 => ?_)
  · have h := h.1 c3
    exact q_vret rfl dX12_either_30 h
  · have h := h.2 c3
    refine q_aload_n dX12_either_13 rfl ?_
    refine q_cV (d' := 2) [] [] dX12_either_14 ok_X12_next mk_RX12_152 rc_168 rfl (Nat.le_of_ble_eq_true rfl) (by first | decide | omega) h (fun v σ4 h => ?_)
    obtain ⟨rfl, h⟩ := h
    refine q_aload_n dX12_either_17 rfl ?_
    refine q_cV (d' := d) [] [] dX12_either_18 ok_X12_both mk_RX12_215 rc_168 rfl (Nat.le_of_ble_eq_true rfl) (by first | decide | omega) h (fun v σ5 h => ?_)
    obtain ⟨rfl, h⟩ := h
    refine q_aload_n dX12_either_21 rfl ?_
    refine q_ldc dX12_either_22 ct_RX12_204 ?_
    refine q_cV (d' := 0) [.int 200000] [] dX12_either_24 ok_X12_put mk_RX12_176 rc_168 rfl (Nat.le_of_ble_eq_true rfl) (by first | decide | omega) h (fun v σ6 h => ?_)
    obtain ⟨rfl, h⟩ := h
    refine q_goto (tgt := 4) dX12_either_27 (by decide) ?_
    exact h

theorem s_X12_lease_0 (g : vt_GT) (σ : vt_Sg) (P : Option Value → vt_Sg → Prop) (p1 : Int32)
  (h : vt_Mv g 2 D_X12_next [.ref (g.2.1 168)] (su (su (su (su (su (su (su σ 168 (upd (σ 168) 11 0)) 168 (upd (upd (σ 168) 11 0) 12 0)) 168 (upd (upd (upd (σ 168) 11 0) 12 0) 13 0)) 168 (upd (upd (upd (upd (σ 168) 11 0) 12 0) 13 0) 14 0)) 168 (upd (upd (upd (upd (upd (σ 168) 11 0) 12 0) 13 0) 14 0) 15 0)) 168 (upd (upd (upd (upd (upd (upd (σ 168) 11 0) 12 0) 13 0) 14 0) 15 0) 17 0)) 168 (upd (upd (upd (upd (upd (upd (upd (σ 168) 11 0) 12 0) 13 0) 14 0) 15 0) 17 0) 18 0)) (fun σ1 => vt_Mv g 5 D_X12_word [.ref (g.2.1 168), .ref (g.2.2.2.2.1 4)] σ1 (fun σ2 => vt_Mv g 120 D_X12_either [.ref (g.2.1 168)] σ2 (fun σ3 => vt_Mv g 0 D_X12_put [.ref (g.2.1 168), .int 300000] σ3 (fun σ4 => vt_Mv g 5 D_X12_word [.ref (g.2.1 168), .ref (g.2.2.2.2.1 7)] σ4 (fun σ5 => vt_Mv g 120 D_X12_either [.ref (g.2.1 168)] σ5 (fun σ6 => vt_Mv g 0 D_X12_put [.ref (g.2.1 168), .int 300000] σ6 (fun σ7 => vt_Mv g 5 D_X12_word [.ref (g.2.1 168), .ref (g.2.2.2.2.1 8)] σ7 (fun σ8 => vt_Mv g 120 D_X12_either [.ref (g.2.1 168)] σ8 (fun σ9 => vt_Mv g 0 D_X12_put [.ref (g.2.1 168), .int 300000] σ9 (fun σ10 => (¬ (σ10 168 13) = 0 → ((¬ p1 < 0 ∧ ¬ (σ10 169 2) - 1 < p1) → P (some (.int ((-100) - (σ10 168 10)))) (su (su σ10 168 (upd (σ10 168) 13 1)) 168 (upd (upd (σ10 168) 13 1) 4 0))) ∧ (¬ (¬ p1 < 0 ∧ ¬ (σ10 169 2) - 1 < p1) → P (some (.int (-1000000001))) (su (su σ10 168 (upd (σ10 168) 13 1)) 168 (upd (upd (σ10 168) 13 1) 4 0)))) ∧ ((σ10 168 13) = 0 → ((σ10 168 12) = 0 → ((¬ p1 < 0 ∧ ¬ (σ10 169 2) - 1 < p1) → TT g (vt_R 121) 0 0 D_X12_lease none 145 [some (.ref (g.2.1 168)), some (.int p1), some (.int (σ10 168 10)), some (.int 0)] [] (su (su σ10 168 (upd (σ10 168) 13 0)) 168 (upd (upd (σ10 168) 13 0) 4 0)) P) ∧ (¬ (¬ p1 < 0 ∧ ¬ (σ10 169 2) - 1 < p1) → P (some (.int (-1000000001))) (su (su σ10 168 (upd (σ10 168) 13 0)) 168 (upd (upd (σ10 168) 13 0) 4 0)))) ∧ (¬ (σ10 168 12) = 0 → ((¬ p1 < 0 ∧ ¬ (σ10 169 2) - 1 < p1) → P (some (.int ((-100) - (σ10 168 10)))) (su (su σ10 168 (upd (σ10 168) 13 1)) 168 (upd (upd (σ10 168) 13 1) 4 0))) ∧ (¬ (¬ p1 < 0 ∧ ¬ (σ10 169 2) - 1 < p1) → P (some (.int (-1000000001))) (su (su σ10 168 (upd (σ10 168) 13 1)) 168 (upd (upd (σ10 168) 13 1) 4 0)))))))))))))))) :
  TT g (vt_R 121) 0 0 D_X12_lease none 0 [some (.ref (g.2.1 168)), some (.int p1), none, none] [] σ P := by
  refine q_aload_n dX12_lease_0 rfl ?_
  refine q_iconst (v := 0) dX12_lease_1 (by decide) ?_
  refine q_putX (F := upd (σ 168) 11 0) dX12_lease_2 fF_RX12_136 fP_12_11 fl_168_11 rfl ?_
  refine q_aload_n dX12_lease_5 rfl ?_
  refine q_iconst (v := 0) dX12_lease_6 (by decide) ?_
  refine q_putX (F := upd (upd (σ 168) 11 0) 12 0) dX12_lease_7 fF_RX12_133 fP_12_12 fl_168_12 rfl ?_
  refine q_aload_n dX12_lease_10 rfl ?_
  refine q_iconst (v := 0) dX12_lease_11 (by decide) ?_
  refine q_putXZ (F := upd (upd (upd (σ 168) 11 0) 12 0) 13 0) dX12_lease_12 fF_RX12_148 fP_12_13 fl_168_13 (by decide) rfl ?_
  refine q_aload_n dX12_lease_15 rfl ?_
  refine q_iconst (v := 0) dX12_lease_16 (by decide) ?_
  refine q_putX (F := upd (upd (upd (upd (σ 168) 11 0) 12 0) 13 0) 14 0) dX12_lease_17 fF_RX12_195 fP_12_14 fl_168_14 rfl ?_
  refine q_aload_n dX12_lease_20 rfl ?_
  refine q_iconst (v := 0) dX12_lease_21 (by decide) ?_
  refine q_putX (F := upd (upd (upd (upd (upd (σ 168) 11 0) 12 0) 13 0) 14 0) 15 0) dX12_lease_22 fF_RX12_188 fP_12_15 fl_168_15 rfl ?_
  refine q_aload_n dX12_lease_25 rfl ?_
  refine q_iconst (v := 0) dX12_lease_26 (by decide) ?_
  refine q_putX (F := upd (upd (upd (upd (upd (upd (σ 168) 11 0) 12 0) 13 0) 14 0) 15 0) 17 0) dX12_lease_27 fF_RX12_168 fP_12_17 fl_168_17 rfl ?_
  refine q_aload_n dX12_lease_30 rfl ?_
  refine q_iconst (v := 0) dX12_lease_31 (by decide) ?_
  refine q_putX (F := upd (upd (upd (upd (upd (upd (upd (σ 168) 11 0) 12 0) 13 0) 14 0) 15 0) 17 0) 18 0) dX12_lease_32 fF_RX12_179 fP_12_18 fl_168_18 rfl ?_
  refine q_aload_n dX12_lease_35 rfl ?_
  refine q_cV (d' := 2) [] [] dX12_lease_36 ok_X12_next mk_RX12_152 rc_168 rfl (Nat.le_of_ble_eq_true rfl) (by first | decide | omega) h (fun v σ1 h => ?_)
  obtain ⟨rfl, h⟩ := h
  refine q_aload_n dX12_lease_39 rfl ?_
  refine q_ldcS (k0 := 4) dX12_lease_40 rfl ?_
  refine q_cV (d' := 5) [.ref (g.2.2.2.2.1 4)] [] dX12_lease_42 ok_X12_word mk_RX12_220 rc_168 rfl (Nat.le_of_ble_eq_true rfl) (by first | decide | omega) h (fun v σ2 h => ?_)
  obtain ⟨rfl, h⟩ := h
  refine q_aload_n dX12_lease_45 rfl ?_
  refine q_cV (d' := 120) [] [] dX12_lease_46 ok_X12_either mk_RX12_198 rc_168 rfl (Nat.le_of_ble_eq_true rfl) (by first | decide | omega) h (fun v σ3 h => ?_)
  obtain ⟨rfl, h⟩ := h
  refine q_aload_n dX12_lease_49 rfl ?_
  refine q_ldc dX12_lease_50 ct_RX12_224 ?_
  refine q_cV (d' := 0) [.int 300000] [] dX12_lease_52 ok_X12_put mk_RX12_176 rc_168 rfl (Nat.le_of_ble_eq_true rfl) (by first | decide | omega) h (fun v σ4 h => ?_)
  obtain ⟨rfl, h⟩ := h
  refine q_aload_n dX12_lease_55 rfl ?_
  refine q_ldcS (k0 := 7) dX12_lease_56 rfl ?_
  refine q_cV (d' := 5) [.ref (g.2.2.2.2.1 7)] [] dX12_lease_58 ok_X12_word mk_RX12_220 rc_168 rfl (Nat.le_of_ble_eq_true rfl) (by first | decide | omega) h (fun v σ5 h => ?_)
  obtain ⟨rfl, h⟩ := h
  refine q_aload_n dX12_lease_61 rfl ?_
  refine q_cV (d' := 120) [] [] dX12_lease_62 ok_X12_either mk_RX12_198 rc_168 rfl (Nat.le_of_ble_eq_true rfl) (by first | decide | omega) h (fun v σ6 h => ?_)
  obtain ⟨rfl, h⟩ := h
  refine q_aload_n dX12_lease_65 rfl ?_
  refine q_ldc dX12_lease_66 ct_RX12_224 ?_
  refine q_cV (d' := 0) [.int 300000] [] dX12_lease_68 ok_X12_put mk_RX12_176 rc_168 rfl (Nat.le_of_ble_eq_true rfl) (by first | decide | omega) h (fun v σ7 h => ?_)
  obtain ⟨rfl, h⟩ := h
  refine q_aload_n dX12_lease_71 rfl ?_
  refine q_ldcS (k0 := 8) dX12_lease_72 rfl ?_
  refine q_cV (d' := 5) [.ref (g.2.2.2.2.1 8)] [] dX12_lease_74 ok_X12_word mk_RX12_220 rc_168 rfl (Nat.le_of_ble_eq_true rfl) (by first | decide | omega) h (fun v σ8 h => ?_)
  obtain ⟨rfl, h⟩ := h
  refine q_aload_n dX12_lease_77 rfl ?_
  refine q_cV (d' := 120) [] [] dX12_lease_78 ok_X12_either mk_RX12_198 rc_168 rfl (Nat.le_of_ble_eq_true rfl) (by first | decide | omega) h (fun v σ9 h => ?_)
  obtain ⟨rfl, h⟩ := h
  refine q_aload_n dX12_lease_81 rfl ?_
  refine q_ldc dX12_lease_82 ct_RX12_224 ?_
  refine q_cV (d' := 0) [.int 300000] [] dX12_lease_84 ok_X12_put mk_RX12_176 rc_168 rfl (Nat.le_of_ble_eq_true rfl) (by first | decide | omega) h (fun v σ10 h => ?_)
  obtain ⟨rfl, h⟩ := h
  refine q_aload_n dX12_lease_87 rfl ?_
  refine q_aload_n dX12_lease_88 rfl ?_
  refine q_getX (x := (σ10 168 13)) dX12_lease_89 fF_RX12_148 fl_168_13 rfl ?_
  refine q_if_ne (tgt := 102) dX12_lease_92 (by decide) (fun c11 => ?_) (fun c11 => ?_)
  · have h := h.1 c11
    refine q_iconst (v := 1) dX12_lease_102 (by decide) ?_
    refine q_goto (tgt := 107) dX12_lease_103 (by decide) ?_
    refine q_putXZ (F := upd (σ10 168) 13 1) dX12_lease_107 fF_RX12_148 fP_12_13 fl_168_13 (by decide) rfl ?_
    refine q_aload_n dX12_lease_110 rfl ?_
    refine q_getX (x := (σ10 168 10)) dX12_lease_111 fF_RX12_139 fl_168_10 rfl ?_
    refine q_istore_n (L' := [some (.ref (g.2.1 168)), some (.int p1), some (.int (σ10 168 10)), none]) dX12_lease_114 (by decide) rfl rfl ?_
    refine q_aload_n dX12_lease_115 rfl ?_
    refine q_iconst (v := 0) dX12_lease_116 (by decide) ?_
    refine q_putX (F := upd (upd (σ10 168) 13 1) 4 0) dX12_lease_117 fF_RX12_129 fP_12_4 fl_168_4 rfl ?_
    refine q_aload_n dX12_lease_120 rfl ?_
    refine q_iload_n dX12_lease_121 rfl ?_
    refine q_cVb (C := ¬ p1 < 0 ∧ ¬ (σ10 169 2) - 1 < p1) (d' := 1) [.int p1] [] dX12_lease_122 ok_X12_isShop mk_RX12_65 rc_168 rfl (Nat.le_of_ble_eq_true rfl) (by first | decide | omega) (fun Φ h9 => c_X12_isShop (σ := su (su σ10 168 (upd (σ10 168) 13 1)) 168 (upd (upd (σ10 168) 13 1) 4 0)) Φ h9) (fun c12 => ?_) (fun c12 => ?_)
    · have h := h.1 c12
      refine q_if_ne (tgt := 131) dX12_lease_125 (by decide) (fun _ => ?_) (fun c => absurd c (by decide))
      refine q_aload_n dX12_lease_131 rfl ?_
      refine q_getX (x := 1) dX12_lease_132 fF_RX12_148 fl_168_13 rfl ?_
      refine q_if_eq (tgt := 143) dX12_lease_135 (by decide) (fun c => absurd c (by decide)) (fun _ => ?_)
      refine q_bipush (v := (-100)) dX12_lease_138 (by decide) ?_
      refine q_iload_n dX12_lease_140 rfl ?_
      refine q_isub dX12_lease_141 ?_
      exact q_iret .int rfl rfl dX12_lease_142 h
    · have h := h.2 c12
      refine q_if_ne (tgt := 131) dX12_lease_125 (by decide) (fun c => absurd rfl c) (fun _ => ?_)
      refine q_ldc dX12_lease_128 ct_RX12_57 ?_
      exact q_iret .int rfl rfl dX12_lease_130 h
  · have h := h.2 c11
    refine q_aload_n dX12_lease_95 rfl ?_
    refine q_getX (x := (σ10 168 12)) dX12_lease_96 fF_RX12_133 fl_168_12 rfl ?_
    refine q_if_eq (tgt := 106) dX12_lease_99 (by decide) (fun c13 => ?_) (fun c13 => ?_)
    · have h := h.1 c13
      refine q_iconst (v := 0) dX12_lease_106 (by decide) ?_
      refine q_putXZ (F := upd (σ10 168) 13 0) dX12_lease_107 fF_RX12_148 fP_12_13 fl_168_13 (by decide) rfl ?_
      refine q_aload_n dX12_lease_110 rfl ?_
      refine q_getX (x := (σ10 168 10)) dX12_lease_111 fF_RX12_139 fl_168_10 rfl ?_
      refine q_istore_n (L' := [some (.ref (g.2.1 168)), some (.int p1), some (.int (σ10 168 10)), none]) dX12_lease_114 (by decide) rfl rfl ?_
      refine q_aload_n dX12_lease_115 rfl ?_
      refine q_iconst (v := 0) dX12_lease_116 (by decide) ?_
      refine q_putX (F := upd (upd (σ10 168) 13 0) 4 0) dX12_lease_117 fF_RX12_129 fP_12_4 fl_168_4 rfl ?_
      refine q_aload_n dX12_lease_120 rfl ?_
      refine q_iload_n dX12_lease_121 rfl ?_
      refine q_cVb (C := ¬ p1 < 0 ∧ ¬ (σ10 169 2) - 1 < p1) (d' := 1) [.int p1] [] dX12_lease_122 ok_X12_isShop mk_RX12_65 rc_168 rfl (Nat.le_of_ble_eq_true rfl) (by first | decide | omega) (fun Φ h9 => c_X12_isShop (σ := su (su σ10 168 (upd (σ10 168) 13 0)) 168 (upd (upd (σ10 168) 13 0) 4 0)) Φ h9) (fun c14 => ?_) (fun c14 => ?_)
      · have h := h.1 c14
        refine q_if_ne (tgt := 131) dX12_lease_125 (by decide) (fun _ => ?_) (fun c => absurd c (by decide))
        refine q_aload_n dX12_lease_131 rfl ?_
        refine q_getX (x := 0) dX12_lease_132 fF_RX12_148 fl_168_13 rfl ?_
        refine q_if_eq (tgt := 143) dX12_lease_135 (by decide) (fun _ => ?_) (fun c => absurd (by decide) c)
        refine q_iconst (v := 0) dX12_lease_143 (by decide) ?_
        refine q_istore_n (L' := [some (.ref (g.2.1 168)), some (.int p1), some (.int (σ10 168 10)), some (.int 0)]) dX12_lease_144 (by decide) rfl rfl ?_
        exact h
      · have h := h.2 c14
        refine q_if_ne (tgt := 131) dX12_lease_125 (by decide) (fun c => absurd rfl c) (fun _ => ?_)
        refine q_ldc dX12_lease_128 ct_RX12_57 ?_
        exact q_iret .int rfl rfl dX12_lease_130 h
    · have h := h.2 c13
      refine q_iconst (v := 1) dX12_lease_102 (by decide) ?_
      refine q_goto (tgt := 107) dX12_lease_103 (by decide) ?_
      refine q_putXZ (F := upd (σ10 168) 13 1) dX12_lease_107 fF_RX12_148 fP_12_13 fl_168_13 (by decide) rfl ?_
      refine q_aload_n dX12_lease_110 rfl ?_
      refine q_getX (x := (σ10 168 10)) dX12_lease_111 fF_RX12_139 fl_168_10 rfl ?_
      refine q_istore_n (L' := [some (.ref (g.2.1 168)), some (.int p1), some (.int (σ10 168 10)), none]) dX12_lease_114 (by decide) rfl rfl ?_
      refine q_aload_n dX12_lease_115 rfl ?_
      refine q_iconst (v := 0) dX12_lease_116 (by decide) ?_
      refine q_putX (F := upd (upd (σ10 168) 13 1) 4 0) dX12_lease_117 fF_RX12_129 fP_12_4 fl_168_4 rfl ?_
      refine q_aload_n dX12_lease_120 rfl ?_
      refine q_iload_n dX12_lease_121 rfl ?_
      refine q_cVb (C := ¬ p1 < 0 ∧ ¬ (σ10 169 2) - 1 < p1) (d' := 1) [.int p1] [] dX12_lease_122 ok_X12_isShop mk_RX12_65 rc_168 rfl (Nat.le_of_ble_eq_true rfl) (by first | decide | omega) (fun Φ h9 => c_X12_isShop (σ := su (su σ10 168 (upd (σ10 168) 13 1)) 168 (upd (upd (σ10 168) 13 1) 4 0)) Φ h9) (fun c15 => ?_) (fun c15 => ?_)
      · have h := h.1 c15
        refine q_if_ne (tgt := 131) dX12_lease_125 (by decide) (fun _ => ?_) (fun c => absurd c (by decide))
        refine q_aload_n dX12_lease_131 rfl ?_
        refine q_getX (x := 1) dX12_lease_132 fF_RX12_148 fl_168_13 rfl ?_
        refine q_if_eq (tgt := 143) dX12_lease_135 (by decide) (fun c => absurd c (by decide)) (fun _ => ?_)
        refine q_bipush (v := (-100)) dX12_lease_138 (by decide) ?_
        refine q_iload_n dX12_lease_140 rfl ?_
        refine q_isub dX12_lease_141 ?_
        exact q_iret .int rfl rfl dX12_lease_142 h
      · have h := h.2 c15
        refine q_if_ne (tgt := 131) dX12_lease_125 (by decide) (fun c => absurd rfl c) (fun _ => ?_)
        refine q_ldc dX12_lease_128 ct_RX12_57 ?_
        exact q_iret .int rfl rfl dX12_lease_130 h

theorem s_X12_lease_145 (g : vt_GT) (σ : vt_Sg) (P : Option Value → vt_Sg → Prop) (x1 : Int32) (x2 : Int32) (x3 : Int32)
  (h : ((σ 168 17) ≤ x3 → vp_in (30 + 8 * x1 + (7 : Int32)) 2220 ∧ (P (some (.int (σ 168 18))) (su σ 169 (upd (σ 169) ((30 + 8 * x1 + (7 : Int32)).toNatClampNeg) (σ 168 18))))) ∧ (¬ (σ 168 17) ≤ x3 → vp_in x3 140 ∧ (vp_in ((540 + (140 * x1)) + x3) 2220 ∧ (TT g (vt_R 121) 0 0 D_X12_lease none 145 [some (.ref (g.2.1 168)), some (.int x1), some (.int x2), some (.int (x3 + 1))] [] (su σ 169 (upd (σ 169) (((540 + (140 * x1)) + x3).toNatClampNeg) (σ 176 x3.toNatClampNeg))) P)))) :
  TT g (vt_R 121) 0 0 D_X12_lease none 145 [some (.ref (g.2.1 168)), some (.int x1), some (.int x2), some (.int x3)] [] σ P := by
  refine q_iload_n dX12_lease_145 rfl ?_
  refine q_aload_n dX12_lease_146 rfl ?_
  refine q_getX (x := (σ 168 17)) dX12_lease_147 fF_RX12_168 fl_168_17 rfl ?_
  refine q_icmp_ge (tgt := 181) dX12_lease_150 (by decide) (fun c1 => ?_) (fun c1 => ?_)
  · have h := h.1 c1
    refine q_aload_n dX12_lease_181 rfl ?_
    refine q_getR dX12_lease_182 fF_RX12_9 fl_168_0 ?_
    refine q_iload_n dX12_lease_185 rfl ?_
    refine q_bipush (v := 7) dX12_lease_186 (by decide) ?_
    refine q_cSi (e := (30 + 8 * x1 + (7 : Int32))) (d' := 0) [.int x1, .int 7] [.ref (g.2.1 169)] dX12_lease_188 ok_X12_of mk_RX12_61 rfl (Nat.le_of_ble_eq_true rfl) (by first | decide | omega) (fun Φ h9 => c_X12_of (σ := σ) Φ h9) ?_
    refine q_aload_n dX12_lease_191 rfl ?_
    refine q_getX (x := (σ 168 18)) dX12_lease_192 fF_RX12_179 fl_168_18 rfl ?_
    obtain ⟨hi2, h⟩ := h
    refine q_iastX (F := upd (σ 169) ((30 + 8 * x1 + (7 : Int32)).toNatClampNeg) (σ 168 18)) dX12_lease_195 ar_169 hi2 rfl ?_
    refine q_aload_n dX12_lease_196 rfl ?_
    refine q_getX (x := (σ 168 18)) dX12_lease_197 fF_RX12_179 fl_168_18 rfl ?_
    exact q_iret .int rfl rfl dX12_lease_200 h
  · have h := h.2 c1
    refine q_aload_n dX12_lease_153 rfl ?_
    refine q_getR dX12_lease_154 fF_RX12_9 fl_168_0 ?_
    refine q_sipush (v := 540) dX12_lease_157 (by decide) ?_
    refine q_sipush (v := 140) dX12_lease_160 (by decide) ?_
    refine q_iload_n dX12_lease_163 rfl ?_
    refine q_imul dX12_lease_164 ?_
    refine q_iadd dX12_lease_165 ?_
    refine q_iload_n dX12_lease_166 rfl ?_
    refine q_iadd dX12_lease_167 ?_
    refine q_aload_n dX12_lease_168 rfl ?_
    refine q_getR dX12_lease_169 fF_RX12_31 fl_168_16 ?_
    refine q_iload_n dX12_lease_172 rfl ?_
    obtain ⟨hi3, h⟩ := h
    refine q_ialdX (v := (σ 176 x3.toNatClampNeg)) dX12_lease_173 ar_176 hi3 rfl ?_
    obtain ⟨hi4, h⟩ := h
    refine q_iastX (F := upd (σ 169) (((540 + (140 * x1)) + x3).toNatClampNeg) (σ 176 x3.toNatClampNeg)) dX12_lease_174 ar_169 hi4 rfl ?_
    refine q_iinc (L' := [some (.ref (g.2.1 168)), some (.int x1), some (.int x2), some (.int (x3 + 1))]) dX12_lease_175 rfl (by decide) rfl rfl ?_
    refine q_goto (tgt := 145) dX12_lease_178 (by decide) ?_
    exact h

theorem s_X12_named_0 (g : vt_GT) (σ : vt_Sg) (P : Option Value → vt_Sg → Prop) (p1 : Int32) (p2 : Int32) (p3 : Int32) (p4 : Int32)
  (h : (p1 = 0 → vt_Mi g 1 D_X12_taken [.ref (g.2.1 168), .int p2, .int p3, .int p4] σ (fun r18 σ17 => P (some (.int r18)) σ17)) ∧ (¬ p1 = 0 → (p1 = 1 → vp_in p2 12 ∧ (vp_in (10 + (σ 175 p2.toNatClampNeg)) 2220 ∧ (P (some (.int (σ 169 (10 + (σ 175 p2.toNatClampNeg)).toNatClampNeg))) σ))) ∧ (¬ p1 = 1 → (p1 = 2 → vt_Mi g 1 D_X12_others [.ref (g.2.1 168), .int p2, .int 5] σ (fun r14 σ13 => P (some (.int r14)) σ13)) ∧ (¬ p1 = 2 → (p1 = 3 → vt_Mi g 1 D_X12_others [.ref (g.2.1 168), .int p2, .int 4] σ (fun r12 σ11 => P (some (.int r12)) σ11)) ∧ (¬ p1 = 3 → (p1 = 4 → vp_in p2 12 ∧ (vt_Mi g 2 D_X12_passers [.ref (g.2.1 168), .int (σ 175 p2.toNatClampNeg)] σ (fun r10 σ9 => P (some (.int r10)) σ9))) ∧ (¬ p1 = 4 → (p1 = 5 → vp_in (30 + 8 * p2 + (0 : Int32)) 2220 ∧ (P (some (.int (σ 169 (30 + 8 * p2 + (0 : Int32)).toNatClampNeg))) σ)) ∧ (¬ p1 = 5 → (p1 = 6 → vt_Mi g 1 D_X12_others [.ref (g.2.1 168), .int p2, .int 6] σ (fun r6 σ5 => P (some (.int r6)) σ5)) ∧ (¬ p1 = 6 → (p1 = 7 → P (some (.int p3)) σ) ∧ (¬ p1 = 7 → (p1 = 8 → vt_Mi g 1 D_X12_others [.ref (g.2.1 168), .int p2, .int 7] σ (fun r4 σ3 => P (some (.int r4)) σ3)) ∧ (¬ p1 = 8 → vt_Mi g 2 D_X12_comers [.ref (g.2.1 168), .int p2] σ (fun r2 σ1 => P (some (.int r2)) σ1))))))))))) :
  TT g (vt_R 3) 0 0 D_X12_named none 0 [some (.ref (g.2.1 168)), some (.int p1), some (.int p2), some (.int p3), some (.int p4)] [] σ P := by
  refine q_iload_n dX12_named_0 rfl ?_
  by_cases n1_0 : p1 = 0
  · have h := h.1 n1_0
    refine q_tabE (kk := 0) n1_0 (tgt := 52) (off := 51) dX12_named_1 (by decide) (by decide) rfl (by decide) ?_
    refine q_aload_n dX12_named_52 rfl ?_
    refine q_iload_n dX12_named_53 rfl ?_
    refine q_iload_n dX12_named_54 rfl ?_
    refine q_iload dX12_named_55 rfl ?_
    refine q_cV (d' := 1) [.int p2, .int p3, .int p4] [] dX12_named_57 ok_X12_taken mk_RX12_124 rc_168 rfl (Nat.le_of_ble_eq_true rfl) (by first | decide | omega) h (fun v σ17 h => ?_)
    obtain ⟨r18, rfl, h⟩ := h
    exact q_iret .int rfl rfl dX12_named_60 h
  · have h := h.2 n1_0
    by_cases n1_1 : p1 = 1
    · have h := h.1 n1_1
      refine q_tabE (kk := 1) n1_1 (tgt := 61) (off := 60) dX12_named_1 (by decide) (by decide) rfl (by decide) ?_
      refine q_aload_n dX12_named_61 rfl ?_
      refine q_getR dX12_named_62 fF_RX12_9 fl_168_0 ?_
      refine q_bipush (v := 10) dX12_named_65 (by decide) ?_
      refine q_aload_n dX12_named_67 rfl ?_
      refine q_getR dX12_named_68 fF_RX12_28 fl_168_9 ?_
      refine q_iload_n dX12_named_71 rfl ?_
      obtain ⟨hi15, h⟩ := h
      refine q_ialdX (v := (σ 175 p2.toNatClampNeg)) dX12_named_72 ar_175 hi15 rfl ?_
      refine q_iadd dX12_named_73 ?_
      obtain ⟨hi16, h⟩ := h
      refine q_ialdX (v := (σ 169 (10 + (σ 175 p2.toNatClampNeg)).toNatClampNeg)) dX12_named_74 ar_169 hi16 rfl ?_
      exact q_iret .int rfl rfl dX12_named_75 h
    · have h := h.2 n1_1
      by_cases n1_2 : p1 = 2
      · have h := h.1 n1_2
        refine q_tabE (kk := 2) n1_2 (tgt := 76) (off := 75) dX12_named_1 (by decide) (by decide) rfl (by decide) ?_
        refine q_aload_n dX12_named_76 rfl ?_
        refine q_iload_n dX12_named_77 rfl ?_
        refine q_iconst (v := 5) dX12_named_78 (by decide) ?_
        refine q_cV (d' := 1) [.int p2, .int 5] [] dX12_named_79 ok_X12_others mk_RX12_116 rc_168 rfl (Nat.le_of_ble_eq_true rfl) (by first | decide | omega) h (fun v σ13 h => ?_)
        obtain ⟨r14, rfl, h⟩ := h
        exact q_iret .int rfl rfl dX12_named_82 h
      · have h := h.2 n1_2
        by_cases n1_3 : p1 = 3
        · have h := h.1 n1_3
          refine q_tabE (kk := 3) n1_3 (tgt := 83) (off := 82) dX12_named_1 (by decide) (by decide) rfl (by decide) ?_
          refine q_aload_n dX12_named_83 rfl ?_
          refine q_iload_n dX12_named_84 rfl ?_
          refine q_iconst (v := 4) dX12_named_85 (by decide) ?_
          refine q_cV (d' := 1) [.int p2, .int 4] [] dX12_named_86 ok_X12_others mk_RX12_116 rc_168 rfl (Nat.le_of_ble_eq_true rfl) (by first | decide | omega) h (fun v σ11 h => ?_)
          obtain ⟨r12, rfl, h⟩ := h
          exact q_iret .int rfl rfl dX12_named_89 h
        · have h := h.2 n1_3
          by_cases n1_4 : p1 = 4
          · have h := h.1 n1_4
            refine q_tabE (kk := 4) n1_4 (tgt := 90) (off := 89) dX12_named_1 (by decide) (by decide) rfl (by decide) ?_
            refine q_aload_n dX12_named_90 rfl ?_
            refine q_aload_n dX12_named_91 rfl ?_
            refine q_getR dX12_named_92 fF_RX12_28 fl_168_9 ?_
            refine q_iload_n dX12_named_95 rfl ?_
            obtain ⟨hi8, h⟩ := h
            refine q_ialdX (v := (σ 175 p2.toNatClampNeg)) dX12_named_96 ar_175 hi8 rfl ?_
            refine q_cV (d' := 2) [.int (σ 175 p2.toNatClampNeg)] [] dX12_named_97 ok_X12_passers mk_RX12_104 rc_168 rfl (Nat.le_of_ble_eq_true rfl) (by first | decide | omega) h (fun v σ9 h => ?_)
            obtain ⟨r10, rfl, h⟩ := h
            exact q_iret .int rfl rfl dX12_named_100 h
          · have h := h.2 n1_4
            by_cases n1_5 : p1 = 5
            · have h := h.1 n1_5
              refine q_tabE (kk := 5) n1_5 (tgt := 101) (off := 100) dX12_named_1 (by decide) (by decide) rfl (by decide) ?_
              refine q_aload_n dX12_named_101 rfl ?_
              refine q_getR dX12_named_102 fF_RX12_9 fl_168_0 ?_
              refine q_iload_n dX12_named_105 rfl ?_
              refine q_iconst (v := 0) dX12_named_106 (by decide) ?_
              refine q_cSi (e := (30 + 8 * p2 + (0 : Int32))) (d' := 0) [.int p2, .int 0] [.ref (g.2.1 169)] dX12_named_107 ok_X12_of mk_RX12_61 rfl (Nat.le_of_ble_eq_true rfl) (by first | decide | omega) (fun Φ h9 => c_X12_of (σ := σ) Φ h9) ?_
              obtain ⟨hi7, h⟩ := h
              refine q_ialdX (v := (σ 169 (30 + 8 * p2 + (0 : Int32)).toNatClampNeg)) dX12_named_110 ar_169 hi7 rfl ?_
              exact q_iret .int rfl rfl dX12_named_111 h
            · have h := h.2 n1_5
              by_cases n1_6 : p1 = 6
              · have h := h.1 n1_6
                refine q_tabE (kk := 6) n1_6 (tgt := 112) (off := 111) dX12_named_1 (by decide) (by decide) rfl (by decide) ?_
                refine q_aload_n dX12_named_112 rfl ?_
                refine q_iload_n dX12_named_113 rfl ?_
                refine q_bipush (v := 6) dX12_named_114 (by decide) ?_
                refine q_cV (d' := 1) [.int p2, .int 6] [] dX12_named_116 ok_X12_others mk_RX12_116 rc_168 rfl (Nat.le_of_ble_eq_true rfl) (by first | decide | omega) h (fun v σ5 h => ?_)
                obtain ⟨r6, rfl, h⟩ := h
                exact q_iret .int rfl rfl dX12_named_119 h
              · have h := h.2 n1_6
                by_cases n1_7 : p1 = 7
                · have h := h.1 n1_7
                  refine q_tabE (kk := 7) n1_7 (tgt := 120) (off := 119) dX12_named_1 (by decide) (by decide) rfl (by decide) ?_
                  refine q_iload_n dX12_named_120 rfl ?_
                  exact q_iret .int rfl rfl dX12_named_121 h
                · have h := h.2 n1_7
                  by_cases n1_8 : p1 = 8
                  · have h := h.1 n1_8
                    refine q_tabE (kk := 8) n1_8 (tgt := 122) (off := 121) dX12_named_1 (by decide) (by decide) rfl (by decide) ?_
                    refine q_aload_n dX12_named_122 rfl ?_
                    refine q_iload_n dX12_named_123 rfl ?_
                    refine q_bipush (v := 7) dX12_named_124 (by decide) ?_
                    refine q_cV (d' := 1) [.int p2, .int 7] [] dX12_named_126 ok_X12_others mk_RX12_116 rc_168 rfl (Nat.le_of_ble_eq_true rfl) (by first | decide | omega) h (fun v σ3 h => ?_)
                    obtain ⟨r4, rfl, h⟩ := h
                    exact q_iret .int rfl rfl dX12_named_129 h
                  · have h := h.2 n1_8
                    refine q_tabOut (tgt := 130) dX12_named_1 (by have z0 := lv_neT (a := 0) n1_0 (by decide); have z1 := lv_neT (a := 1) n1_1 (by decide); have z2 := lv_neT (a := 2) n1_2 (by decide); have z3 := lv_neT (a := 3) n1_3 (by decide); have z4 := lv_neT (a := 4) n1_4 (by decide); have z5 := lv_neT (a := 5) n1_5 (by decide); have z6 := lv_neT (a := 6) n1_6 (by decide); have z7 := lv_neT (a := 7) n1_7 (by decide); have z8 := lv_neT (a := 8) n1_8 (by decide); omega) (by decide) ?_
                    refine q_aload_n dX12_named_130 rfl ?_
                    refine q_iload_n dX12_named_131 rfl ?_
                    refine q_cV (d' := 2) [.int p2] [] dX12_named_132 ok_X12_comers mk_RX12_101 rc_168 rfl (Nat.le_of_ble_eq_true rfl) (by first | decide | omega) h (fun v σ1 h => ?_)
                    obtain ⟨r2, rfl, h⟩ := h
                    exact q_iret .int rfl rfl dX12_named_135 h

theorem s_X12_worked_0 (g : vt_GT) (σ : vt_Sg) (P : Option Value → vt_Sg → Prop) (p1 : Int32) (p2 : Int32) (p3 : Int32) (p4 : Int32)
  (h : TT g (vt_R 4) 0 0 D_X12_worked none 14 [some (.ref (g.2.1 168)), some (.int p1), some (.int p2), some (.int p3), some (.int p4), some (.int (540 + (140 * p1))), some (.int p2), none, none] [] σ P) :
  TT g (vt_R 4) 0 0 D_X12_worked none 0 [some (.ref (g.2.1 168)), some (.int p1), some (.int p2), some (.int p3), some (.int p4), none, none, none, none] [] σ P := by
  refine q_sipush (v := 540) dX12_worked_0 (by decide) ?_
  refine q_sipush (v := 140) dX12_worked_3 (by decide) ?_
  refine q_iload_n dX12_worked_6 rfl ?_
  refine q_imul dX12_worked_7 ?_
  refine q_iadd dX12_worked_8 ?_
  refine q_istore (L' := [some (.ref (g.2.1 168)), some (.int p1), some (.int p2), some (.int p3), some (.int p4), some (.int (540 + (140 * p1))), none, none, none]) dX12_worked_9 (by decide) rfl rfl ?_
  refine q_iload_n dX12_worked_11 rfl ?_
  refine q_istore (L' := [some (.ref (g.2.1 168)), some (.int p1), some (.int p2), some (.int p3), some (.int p4), some (.int (540 + (140 * p1))), some (.int p2), none, none]) dX12_worked_12 (by decide) rfl rfl ?_
  exact h

theorem s_X12_worked_14 (g : vt_GT) (σ : vt_Sg) (P : Option Value → vt_Sg → Prop) (x1 : Int32) (x2 : Int32) (x3 : Int32) (x4 : Int32) (x5 : Int32) (x6 : Int32)
  (h : (x6 ≤ 0 → TT g (vt_R 4) 0 0 D_X12_worked none 50 [some (.ref (g.2.1 168)), some (.int x1), some (.int x2), some (.int x3), some (.int x4), some (.int x5), some (.int x6), some (.int 0), none] [] σ P) ∧ (¬ x6 ≤ 0 → vp_in x5 2220 ∧ ((¬ (σ 169 x5.toNatClampNeg) = 300000 → TT g (vt_R 4) 0 0 D_X12_worked none 14 [some (.ref (g.2.1 168)), some (.int x1), some (.int x2), some (.int x3), some (.int x4), some (.int (x5 + 1)), some (.int (x6 - 0)), none, none] [] σ P) ∧ ((σ 169 x5.toNatClampNeg) = 300000 → TT g (vt_R 4) 0 0 D_X12_worked none 14 [some (.ref (g.2.1 168)), some (.int x1), some (.int x2), some (.int x3), some (.int x4), some (.int (x5 + 1)), some (.int (x6 - 1)), none, none] [] σ P)))) :
  TT g (vt_R 4) 0 0 D_X12_worked none 14 [some (.ref (g.2.1 168)), some (.int x1), some (.int x2), some (.int x3), some (.int x4), some (.int x5), some (.int x6), none, none] [] σ P := by
  refine q_iload dX12_worked_14 rfl ?_
  refine q_if_le (tgt := 47) dX12_worked_16 (by decide) (fun c1 => ?_) (fun c1 => ?_)
  · have h := h.1 c1
    refine q_iconst (v := 0) dX12_worked_47 (by decide) ?_
    refine q_istore (L' := [some (.ref (g.2.1 168)), some (.int x1), some (.int x2), some (.int x3), some (.int x4), some (.int x5), some (.int x6), some (.int 0), none]) dX12_worked_48 (by decide) rfl rfl ?_
    exact h
  · have h := h.2 c1
    refine q_iload dX12_worked_19 rfl ?_
    refine q_aload_n dX12_worked_21 rfl ?_
    refine q_getR dX12_worked_22 fF_RX12_9 fl_168_0 ?_
    refine q_iload dX12_worked_25 rfl ?_
    obtain ⟨hi2, h⟩ := h
    refine q_ialdX (v := (σ 169 x5.toNatClampNeg)) dX12_worked_27 ar_169 hi2 rfl ?_
    refine q_ldc dX12_worked_28 ct_RX12_224 ?_
    refine q_icmp_ne (tgt := 37) dX12_worked_30 (by decide) (fun c3 => ?_) (fun c3 => ?_)
    · have h := h.1 c3
      refine q_iconst (v := 0) dX12_worked_37 (by decide) ?_
      refine q_isub dX12_worked_38 ?_
      refine q_istore (L' := [some (.ref (g.2.1 168)), some (.int x1), some (.int x2), some (.int x3), some (.int x4), some (.int x5), some (.int (x6 - 0)), none, none]) dX12_worked_39 (by decide) rfl rfl ?_
      refine q_iinc (L' := [some (.ref (g.2.1 168)), some (.int x1), some (.int x2), some (.int x3), some (.int x4), some (.int (x5 + 1)), some (.int (x6 - 0)), none, none]) dX12_worked_41 rfl (by decide) rfl rfl ?_
      refine q_goto (tgt := 14) dX12_worked_44 (by decide) ?_
      exact h
    · have h := h.2 c3
      refine q_iconst (v := 1) dX12_worked_33 (by decide) ?_
      refine q_goto (tgt := 38) dX12_worked_34 (by decide) ?_
      refine q_isub dX12_worked_38 ?_
      refine q_istore (L' := [some (.ref (g.2.1 168)), some (.int x1), some (.int x2), some (.int x3), some (.int x4), some (.int x5), some (.int (x6 - 1)), none, none]) dX12_worked_39 (by decide) rfl rfl ?_
      refine q_iinc (L' := [some (.ref (g.2.1 168)), some (.int x1), some (.int x2), some (.int x3), some (.int x4), some (.int (x5 + 1)), some (.int (x6 - 1)), none, none]) dX12_worked_41 rfl (by decide) rfl rfl ?_
      refine q_goto (tgt := 14) dX12_worked_44 (by decide) ?_
      exact h

theorem s_X12_worked_50 (g : vt_GT) (σ : vt_Sg) (P : Option Value → vt_Sg → Prop) (x1 : Int32) (x2 : Int32) (x3 : Int32) (x4 : Int32) (x5 : Int32) (x6 : Int32) (x7 : Int32)
  (h : vp_in x5 2220 ∧ (((σ 169 x5.toNatClampNeg) = 300000 → P (some (.int (σ 177 0))) σ) ∧ (¬ (σ 169 x5.toNatClampNeg) = 300000 → (200000 ≤ (σ 169 x5.toNatClampNeg) → (¬ (σ 169 x5.toNatClampNeg) = 200009 → vp_in ((x7 + (-1)) - 1) 140 ∧ (vp_in (x7 + (-1)) 140 ∧ (TT g (vt_R 4) 0 0 D_X12_worked none 50 [some (.ref (g.2.1 168)), some (.int x1), some (.int x2), some (.int x3), some (.int x4), some (.int (x5 + 1)), some (.int x6), some (.int (x7 + (-1))), none] [] (su σ 177 (upd (σ 177) (((x7 + (-1)) - 1).toNatClampNeg) (dn ((σ 169 x5.toNatClampNeg) - 200000) (σ 177 ((x7 + (-1)) - 1).toNatClampNeg) (σ 177 (x7 + (-1)).toNatClampNeg)))) P))) ∧ ((σ 169 x5.toNatClampNeg) = 200009 → vp_in (x7 - 1) 140 ∧ ((¬ (σ 177 (x7 - 1).toNatClampNeg) = 0 → TT g (vt_R 4) 0 0 D_X12_worked none 50 [some (.ref (g.2.1 168)), some (.int x1), some (.int x2), some (.int x3), some (.int x4), some (.int (x5 + 1)), some (.int x6), some (.int x7), none] [] (su σ 177 (upd (σ 177) ((x7 - 1).toNatClampNeg) 0)) P) ∧ ((σ 177 (x7 - 1).toNatClampNeg) = 0 → TT g (vt_R 4) 0 0 D_X12_worked none 50 [some (.ref (g.2.1 168)), some (.int x1), some (.int x2), some (.int x3), some (.int x4), some (.int (x5 + 1)), some (.int x6), some (.int x7), none] [] (su σ 177 (upd (σ 177) ((x7 - 1).toNatClampNeg) 1)) P)))) ∧ (¬ 200000 ≤ (σ 169 x5.toNatClampNeg) → (100000 ≤ (σ 169 x5.toNatClampNeg) → vt_Mi g 3 D_X12_named [.ref (g.2.1 168), .int ((σ 169 x5.toNatClampNeg) - 100000), .int x1, .int x3, .int x4] σ (fun r11 σ10 => vp_in x7 140 ∧ (TT g (vt_R 4) 0 0 D_X12_worked none 50 [some (.ref (g.2.1 168)), some (.int x1), some (.int x2), some (.int x3), some (.int x4), some (.int (x5 + 1)), some (.int x6), some (.int (x7 + 1)), none] [] (su σ10 177 (upd (σ10 177) x7.toNatClampNeg r11)) P))) ∧ (¬ 100000 ≤ (σ 169 x5.toNatClampNeg) → vp_in x7 140 ∧ (TT g (vt_R 4) 0 0 D_X12_worked none 50 [some (.ref (g.2.1 168)), some (.int x1), some (.int x2), some (.int x3), some (.int x4), some (.int (x5 + 1)), some (.int x6), some (.int (x7 + 1)), none] [] (su σ 177 (upd (σ 177) x7.toNatClampNeg (σ 169 x5.toNatClampNeg))) P)))))) :
  TT g (vt_R 4) 0 0 D_X12_worked none 50 [some (.ref (g.2.1 168)), some (.int x1), some (.int x2), some (.int x3), some (.int x4), some (.int x5), some (.int x6), some (.int x7), none] [] σ P := by
  refine q_aload_n dX12_worked_50 rfl ?_
  refine q_getR dX12_worked_51 fF_RX12_9 fl_168_0 ?_
  refine q_iload dX12_worked_54 rfl ?_
  obtain ⟨hi1, h⟩ := h
  refine q_ialdX (v := (σ 169 x5.toNatClampNeg)) dX12_worked_56 ar_169 hi1 rfl ?_
  refine q_ldc dX12_worked_57 ct_RX12_224 ?_
  refine q_icmp_eq (tgt := 194) dX12_worked_59 (by decide) (fun c2 => ?_) (fun c2 => ?_)
  · have h := h.1 c2
    refine q_aload_n dX12_worked_194 rfl ?_
    refine q_getR dX12_worked_195 fF_RX12_34 fl_168_19 ?_
    refine q_iconst (v := 0) dX12_worked_198 (by decide) ?_
    refine q_ialdX (v := (σ 177 0)) dX12_worked_199 ar_177 (vt_inl rfl) rfl ?_
    exact q_iret .int rfl rfl dX12_worked_200 h
  · have h := h.2 c2
    refine q_aload_n dX12_worked_62 rfl ?_
    refine q_getR dX12_worked_63 fF_RX12_9 fl_168_0 ?_
    refine q_iload dX12_worked_66 rfl ?_
    refine q_ialdX (v := (σ 169 x5.toNatClampNeg)) dX12_worked_68 ar_169 hi1 rfl ?_
    refine q_istore (L' := [some (.ref (g.2.1 168)), some (.int x1), some (.int x2), some (.int x3), some (.int x4), some (.int x5), some (.int x6), some (.int x7), some (.int (σ 169 x5.toNatClampNeg))]) dX12_worked_69 (by decide) rfl rfl ?_
    refine q_iinc (L' := [some (.ref (g.2.1 168)), some (.int x1), some (.int x2), some (.int x3), some (.int x4), some (.int (x5 + 1)), some (.int x6), some (.int x7), some (.int (σ 169 x5.toNatClampNeg))]) dX12_worked_71 rfl (by decide) rfl rfl ?_
    refine q_iload dX12_worked_74 rfl ?_
    refine q_ldc dX12_worked_76 ct_RX12_204 ?_
    refine q_icmp_ge (tgt := 119) dX12_worked_78 (by decide) (fun c3 => ?_) (fun c3 => ?_)
    · have h := h.1 c3
      refine q_iload dX12_worked_119 rfl ?_
      refine q_ldc dX12_worked_121 ct_RX12_194 ?_
      refine q_icmp_ne (tgt := 155) dX12_worked_123 (by decide) (fun c4 => ?_) (fun c4 => ?_)
      · have h := h.1 c4
        refine q_iinc (L' := [some (.ref (g.2.1 168)), some (.int x1), some (.int x2), some (.int x3), some (.int x4), some (.int (x5 + 1)), some (.int x6), some (.int (x7 + (-1))), some (.int (σ 169 x5.toNatClampNeg))]) dX12_worked_155 rfl (by decide) rfl rfl ?_
        refine q_aload_n dX12_worked_158 rfl ?_
        refine q_getR dX12_worked_159 fF_RX12_34 fl_168_19 ?_
        refine q_iload dX12_worked_162 rfl ?_
        refine q_iconst (v := 1) dX12_worked_164 (by decide) ?_
        refine q_isub dX12_worked_165 ?_
        refine q_iload dX12_worked_166 rfl ?_
        refine q_ldc dX12_worked_168 ct_RX12_204 ?_
        refine q_isub dX12_worked_170 ?_
        refine q_aload_n dX12_worked_171 rfl ?_
        refine q_getR dX12_worked_172 fF_RX12_34 fl_168_19 ?_
        refine q_iload dX12_worked_175 rfl ?_
        refine q_iconst (v := 1) dX12_worked_177 (by decide) ?_
        refine q_isub dX12_worked_178 ?_
        obtain ⟨hi5, h⟩ := h
        refine q_ialdX (v := (σ 177 ((x7 + (-1)) - 1).toNatClampNeg)) dX12_worked_179 ar_177 hi5 rfl ?_
        refine q_aload_n dX12_worked_180 rfl ?_
        refine q_getR dX12_worked_181 fF_RX12_34 fl_168_19 ?_
        refine q_iload dX12_worked_184 rfl ?_
        obtain ⟨hi6, h⟩ := h
        refine q_ialdX (v := (σ 177 (x7 + (-1)).toNatClampNeg)) dX12_worked_186 ar_177 hi6 rfl ?_
        refine q_cSi (e := (dn ((σ 169 x5.toNatClampNeg) - 200000) (σ 177 ((x7 + (-1)) - 1).toNatClampNeg) (σ 177 (x7 + (-1)).toNatClampNeg))) (d' := 0) [.int ((σ 169 x5.toNatClampNeg) - 200000), .int (σ 177 ((x7 + (-1)) - 1).toNatClampNeg), .int (σ 177 (x7 + (-1)).toNatClampNeg)] [.int ((x7 + (-1)) - 1), .ref (g.2.1 177)] dX12_worked_187 ok_X12_done mk_RX12_233 rfl (Nat.le_of_ble_eq_true rfl) (by first | decide | omega) (fun Φ h9 => c_X12_done (σ := σ) Φ h9) ?_
        refine q_iastX (F := upd (σ 177) (((x7 + (-1)) - 1).toNatClampNeg) (dn ((σ 169 x5.toNatClampNeg) - 200000) (σ 177 ((x7 + (-1)) - 1).toNatClampNeg) (σ 177 (x7 + (-1)).toNatClampNeg))) dX12_worked_190 ar_177 hi5 rfl ?_
        refine q_goto (tgt := 50) dX12_worked_191 (by decide) ?_
        exact q_wk (by simp [vt_le]) h
      · have h := h.2 c4
        refine q_aload_n dX12_worked_126 rfl ?_
        refine q_getR dX12_worked_127 fF_RX12_34 fl_168_19 ?_
        refine q_iload dX12_worked_130 rfl ?_
        refine q_iconst (v := 1) dX12_worked_132 (by decide) ?_
        refine q_isub dX12_worked_133 ?_
        refine q_aload_n dX12_worked_134 rfl ?_
        refine q_getR dX12_worked_135 fF_RX12_34 fl_168_19 ?_
        refine q_iload dX12_worked_138 rfl ?_
        refine q_iconst (v := 1) dX12_worked_140 (by decide) ?_
        refine q_isub dX12_worked_141 ?_
        obtain ⟨hi7, h⟩ := h
        refine q_ialdX (v := (σ 177 (x7 - 1).toNatClampNeg)) dX12_worked_142 ar_177 hi7 rfl ?_
        refine q_if_ne (tgt := 150) dX12_worked_143 (by decide) (fun c8 => ?_) (fun c8 => ?_)
        · have h := h.1 c8
          refine q_iconst (v := 0) dX12_worked_150 (by decide) ?_
          refine q_iastX (F := upd (σ 177) ((x7 - 1).toNatClampNeg) 0) dX12_worked_151 ar_177 hi7 rfl ?_
          refine q_goto (tgt := 191) dX12_worked_152 (by decide) ?_
          refine q_goto (tgt := 50) dX12_worked_191 (by decide) ?_
          exact q_wk (by simp [vt_le]) h
        · have h := h.2 c8
          refine q_iconst (v := 1) dX12_worked_146 (by decide) ?_
          refine q_goto (tgt := 151) dX12_worked_147 (by decide) ?_
          refine q_iastX (F := upd (σ 177) ((x7 - 1).toNatClampNeg) 1) dX12_worked_151 ar_177 hi7 rfl ?_
          refine q_goto (tgt := 191) dX12_worked_152 (by decide) ?_
          refine q_goto (tgt := 50) dX12_worked_191 (by decide) ?_
          exact q_wk (by simp [vt_le]) h
    · have h := h.2 c3
      refine q_aload_n dX12_worked_81 rfl ?_
      refine q_getR dX12_worked_82 fF_RX12_34 fl_168_19 ?_
      refine q_iload dX12_worked_85 rfl ?_
      refine q_iload dX12_worked_87 rfl ?_
      refine q_ldc dX12_worked_89 ct_RX12_187 ?_
      refine q_icmp_ge (tgt := 99) dX12_worked_91 (by decide) (fun c9 => ?_) (fun c9 => ?_)
      · have h := h.1 c9
        refine q_aload_n dX12_worked_99 rfl ?_
        refine q_iload dX12_worked_100 rfl ?_
        refine q_ldc dX12_worked_102 ct_RX12_187 ?_
        refine q_isub dX12_worked_104 ?_
        refine q_iload_n dX12_worked_105 rfl ?_
        refine q_iload_n dX12_worked_106 rfl ?_
        refine q_iload dX12_worked_107 rfl ?_
        refine q_cV (d' := 3) [.int ((σ 169 x5.toNatClampNeg) - 100000), .int x1, .int x3, .int x4] [.int x7, .ref (g.2.1 177)] dX12_worked_109 ok_X12_named mk_RX12_229 rc_168 rfl (Nat.le_of_ble_eq_true rfl) (by first | decide | omega) h (fun v σ10 h => ?_)
        obtain ⟨r11, rfl, h⟩ := h
        obtain ⟨hi12, h⟩ := h
        refine q_iastX (F := upd (σ10 177) x7.toNatClampNeg r11) dX12_worked_112 ar_177 hi12 rfl ?_
        refine q_iinc (L' := [some (.ref (g.2.1 168)), some (.int x1), some (.int x2), some (.int x3), some (.int x4), some (.int (x5 + 1)), some (.int x6), some (.int (x7 + 1)), some (.int (σ 169 x5.toNatClampNeg))]) dX12_worked_113 rfl (by decide) rfl rfl ?_
        refine q_goto (tgt := 191) dX12_worked_116 (by decide) ?_
        refine q_goto (tgt := 50) dX12_worked_191 (by decide) ?_
        exact q_wk (by simp [vt_le]) h
      · have h := h.2 c9
        refine q_iload dX12_worked_94 rfl ?_
        refine q_goto (tgt := 112) dX12_worked_96 (by decide) ?_
        obtain ⟨hi13, h⟩ := h
        refine q_iastX (F := upd (σ 177) x7.toNatClampNeg (σ 169 x5.toNatClampNeg)) dX12_worked_112 ar_177 hi13 rfl ?_
        refine q_iinc (L' := [some (.ref (g.2.1 168)), some (.int x1), some (.int x2), some (.int x3), some (.int x4), some (.int (x5 + 1)), some (.int x6), some (.int (x7 + 1)), some (.int (σ 169 x5.toNatClampNeg))]) dX12_worked_113 rfl (by decide) rfl rfl ?_
        refine q_goto (tgt := 191) dX12_worked_116 (by decide) ?_
        refine q_goto (tgt := 50) dX12_worked_191 (by decide) ?_
        exact q_wk (by simp [vt_le]) h

theorem s_X12_rentOf_0 (g : vt_GT) (σ : vt_Sg) (P : Option Value → vt_Sg → Prop) (p1 : Int32) (p2 : Int32) (p3 : Int32)
  (h : vp_in p1 12 ∧ (((σ 175 p1.toNatClampNeg) < 0 → P (some (.int 0)) σ) ∧ (¬ (σ 175 p1.toNatClampNeg) < 0 → vp_in (30 + 8 * p1 + 7) 2220 ∧ (((0 < (σ 169 (30 + 8 * p1 + 7).toNatClampNeg)) → vt_Mi g 4 D_X12_worked [.ref (g.2.1 168), .int p1, .int 0, .int p2, .int p3] σ (fun r6 σ5 => vt_Mi g 4 D_X12_worked [.ref (g.2.1 168), .int p1, .int 1, .int p2, .int p3] σ5 (fun r8 σ7 => P (some (.int ((if 0 < (if r6 < 99999 then r6 else 99999) then (if r6 < 99999 then r6 else 99999) else 0) + (if 0 < (if r8 < 99999 then r8 else 99999) then (if r8 < 99999 then r8 else 99999) else 0)))) σ7))) ∧ (¬ (0 < (σ 169 (30 + 8 * p1 + 7).toNatClampNeg)) → P (some (.int 0)) σ))))) :
  TT g (vt_R 5) 0 0 D_X12_rentOf none 0 [some (.ref (g.2.1 168)), some (.int p1), some (.int p2), some (.int p3), none] [] σ P := by
  refine q_aload_n dX12_rentOf_0 rfl ?_
  refine q_getR dX12_rentOf_1 fF_RX12_28 fl_168_9 ?_
  refine q_iload_n dX12_rentOf_4 rfl ?_
  obtain ⟨hi1, h⟩ := h
  refine q_ialdX (v := (σ 175 p1.toNatClampNeg)) dX12_rentOf_5 ar_175 hi1 rfl ?_
  refine q_if_lt (tgt := 17) dX12_rentOf_6 (by decide) (fun c2 => ?_) (fun c2 => ?_)
  · have h := h.1 c2
    refine q_iconst (v := 0) dX12_rentOf_17 (by decide) ?_
    exact q_iret .int rfl rfl dX12_rentOf_18 h
  · have h := h.2 c2
    refine q_aload_n dX12_rentOf_9 rfl ?_
    refine q_iload_n dX12_rentOf_10 rfl ?_
    obtain ⟨hp3, h⟩ := h
    refine q_cVb (C := 0 < (σ 169 (30 + 8 * p1 + 7).toNatClampNeg)) (d' := 1) [.int p1] [] dX12_rentOf_11 ok_X12_hasLease mk_RX12_236 rc_168 rfl (Nat.le_of_ble_eq_true rfl) (by first | decide | omega) (fun Φ h9 => c_X12_hasLease (σ := σ) hp3 Φ h9) (fun c4 => ?_) (fun c4 => ?_)
    · have h := h.1 c4
      refine q_if_ne (tgt := 19) dX12_rentOf_14 (by decide) (fun _ => ?_) (fun c => absurd c (by decide))
      refine q_iconst (v := 0) dX12_rentOf_19 (by decide) ?_
      refine q_ldc dX12_rentOf_20 ct_RX12_60 ?_
      refine q_aload_n dX12_rentOf_22 rfl ?_
      refine q_iload_n dX12_rentOf_23 rfl ?_
      refine q_iconst (v := 0) dX12_rentOf_24 (by decide) ?_
      refine q_iload_n dX12_rentOf_25 rfl ?_
      refine q_iload_n dX12_rentOf_26 rfl ?_
      refine q_cV (d' := 4) [.int p1, .int 0, .int p2, .int p3] [.int 99999, .int 0] dX12_rentOf_27 ok_X12_worked mk_RX12_239 rc_168 rfl (Nat.le_of_ble_eq_true rfl) (by first | decide | omega) h (fun v σ5 h => ?_)
      obtain ⟨r6, rfl, h⟩ := h
      refine q_min dX12_rentOf_30 mk_RX12_93 sta_min ini_math cod_min (Nat.le_of_ble_eq_true rfl) (by first | decide | omega) ?_
      refine q_max dX12_rentOf_33 mk_RX12_98 sta_max ini_math cod_max (Nat.le_of_ble_eq_true rfl) (by first | decide | omega) ?_
      refine q_istore (L' := [some (.ref (g.2.1 168)), some (.int p1), some (.int p2), some (.int p3), some (.int (if 0 < (if r6 < 99999 then r6 else 99999) then (if r6 < 99999 then r6 else 99999) else 0))]) dX12_rentOf_36 (by decide) rfl rfl ?_
      refine q_iload dX12_rentOf_38 rfl ?_
      refine q_iconst (v := 0) dX12_rentOf_40 (by decide) ?_
      refine q_ldc dX12_rentOf_41 ct_RX12_60 ?_
      refine q_aload_n dX12_rentOf_43 rfl ?_
      refine q_iload_n dX12_rentOf_44 rfl ?_
      refine q_iconst (v := 1) dX12_rentOf_45 (by decide) ?_
      refine q_iload_n dX12_rentOf_46 rfl ?_
      refine q_iload_n dX12_rentOf_47 rfl ?_
      refine q_cV (d' := 4) [.int p1, .int 1, .int p2, .int p3] [.int 99999, .int 0, .int (if 0 < (if r6 < 99999 then r6 else 99999) then (if r6 < 99999 then r6 else 99999) else 0)] dX12_rentOf_48 ok_X12_worked mk_RX12_239 rc_168 rfl (Nat.le_of_ble_eq_true rfl) (by first | decide | omega) h (fun v σ7 h => ?_)
      obtain ⟨r8, rfl, h⟩ := h
      refine q_min dX12_rentOf_51 mk_RX12_93 sta_min ini_math cod_min (Nat.le_of_ble_eq_true rfl) (by first | decide | omega) ?_
      refine q_max dX12_rentOf_54 mk_RX12_98 sta_max ini_math cod_max (Nat.le_of_ble_eq_true rfl) (by first | decide | omega) ?_
      refine q_iadd dX12_rentOf_57 ?_
      exact q_iret .int rfl rfl dX12_rentOf_58 h
    · have h := h.2 c4
      refine q_if_ne (tgt := 19) dX12_rentOf_14 (by decide) (fun c => absurd rfl c) (fun _ => ?_)
      refine q_iconst (v := 0) dX12_rentOf_17 (by decide) ?_
      exact q_iret .int rfl rfl dX12_rentOf_18 h

theorem s_X12_rent_0 (g : vt_GT) (σ : vt_Sg) (P : Option Value → vt_Sg → Prop) (p1 : Int32) (p2 : Int32) (p3 : Int32)
  (h : ((¬ p1 < 0 ∧ ¬ (σ 169 2) - 1 < p1) → ((¬ p2 < 0 ∧ ¬ (σ 169 0) < p2) → ((¬ p3 < 0 ∧ ¬ (σ 169 0) < p3) → vt_Mv g 1 D_X12_findStands [.ref (g.2.1 168), .int p2] σ (fun σ4 => vt_Mi g 5 D_X12_rentOf [.ref (g.2.1 168), .int p1, .int p2, .int p3] σ4 (fun r6 σ5 => P (some (.int r6)) σ5))) ∧ (¬ (¬ p3 < 0 ∧ ¬ (σ 169 0) < p3) → P (some (.int (-1000000001))) σ)) ∧ (¬ (¬ p2 < 0 ∧ ¬ (σ 169 0) < p2) → P (some (.int (-1000000001))) σ)) ∧ (¬ (¬ p1 < 0 ∧ ¬ (σ 169 2) - 1 < p1) → P (some (.int (-1000000001))) σ)) :
  TT g (vt_R 6) 0 0 D_X12_rent none 0 [some (.ref (g.2.1 168)), some (.int p1), some (.int p2), some (.int p3)] [] σ P := by
  refine q_aload_n dX12_rent_0 rfl ?_
  refine q_iload_n dX12_rent_1 rfl ?_
  refine q_cVb (C := ¬ p1 < 0 ∧ ¬ (σ 169 2) - 1 < p1) (d' := 1) [.int p1] [] dX12_rent_2 ok_X12_isShop mk_RX12_65 rc_168 rfl (Nat.le_of_ble_eq_true rfl) (by first | decide | omega) (fun Φ h9 => c_X12_isShop (σ := σ) Φ h9) (fun c1 => ?_) (fun c1 => ?_)
  · have h := h.1 c1
    refine q_if_eq (tgt := 24) dX12_rent_5 (by decide) (fun c => absurd c (by decide)) (fun _ => ?_)
    refine q_aload_n dX12_rent_8 rfl ?_
    refine q_iload_n dX12_rent_9 rfl ?_
    refine q_cVb (C := ¬ p2 < 0 ∧ ¬ (σ 169 0) < p2) (d' := 1) [.int p2] [] dX12_rent_10 ok_X12_isPast mk_RX12_110 rc_168 rfl (Nat.le_of_ble_eq_true rfl) (by first | decide | omega) (fun Φ h9 => c_X12_isPast (σ := σ) Φ h9) (fun c2 => ?_) (fun c2 => ?_)
    · have h := h.1 c2
      refine q_if_eq (tgt := 24) dX12_rent_13 (by decide) (fun c => absurd c (by decide)) (fun _ => ?_)
      refine q_aload_n dX12_rent_16 rfl ?_
      refine q_iload_n dX12_rent_17 rfl ?_
      refine q_cVb (C := ¬ p3 < 0 ∧ ¬ (σ 169 0) < p3) (d' := 1) [.int p3] [] dX12_rent_18 ok_X12_isPast mk_RX12_110 rc_168 rfl (Nat.le_of_ble_eq_true rfl) (by first | decide | omega) (fun Φ h9 => c_X12_isPast (σ := σ) Φ h9) (fun c3 => ?_) (fun c3 => ?_)
      · have h := h.1 c3
        refine q_if_ne (tgt := 27) dX12_rent_21 (by decide) (fun _ => ?_) (fun c => absurd c (by decide))
        refine q_aload_n dX12_rent_27 rfl ?_
        refine q_iload_n dX12_rent_28 rfl ?_
        refine q_cV (d' := 1) [.int p2] [] dX12_rent_29 ok_X12_findStands mk_RX12_72 rc_168 rfl (Nat.le_of_ble_eq_true rfl) (by first | decide | omega) h (fun v σ4 h => ?_)
        obtain ⟨rfl, h⟩ := h
        refine q_aload_n dX12_rent_32 rfl ?_
        refine q_iload_n dX12_rent_33 rfl ?_
        refine q_iload_n dX12_rent_34 rfl ?_
        refine q_iload_n dX12_rent_35 rfl ?_
        refine q_cV (d' := 5) [.int p1, .int p2, .int p3] [] dX12_rent_36 ok_X12_rentOf mk_RX12_242 rc_168 rfl (Nat.le_of_ble_eq_true rfl) (by first | decide | omega) h (fun v σ5 h => ?_)
        obtain ⟨r6, rfl, h⟩ := h
        exact q_iret .int rfl rfl dX12_rent_39 h
      · have h := h.2 c3
        refine q_if_ne (tgt := 27) dX12_rent_21 (by decide) (fun c => absurd rfl c) (fun _ => ?_)
        refine q_ldc dX12_rent_24 ct_RX12_57 ?_
        exact q_iret .int rfl rfl dX12_rent_26 h
    · have h := h.2 c2
      refine q_if_eq (tgt := 24) dX12_rent_13 (by decide) (fun _ => ?_) (fun c => absurd (by decide) c)
      refine q_ldc dX12_rent_24 ct_RX12_57 ?_
      exact q_iret .int rfl rfl dX12_rent_26 h
  · have h := h.2 c1
    refine q_if_eq (tgt := 24) dX12_rent_5 (by decide) (fun _ => ?_) (fun c => absurd (by decide) c)
    refine q_ldc dX12_rent_24 ct_RX12_57 ?_
    exact q_iret .int rfl rfl dX12_rent_26 h

theorem s_X12_rents_0 (g : vt_GT) (σ : vt_Sg) (P : Option Value → vt_Sg → Prop) (p1 : Int32) (p2 : Int32)
  (h : ((¬ p1 < 0 ∧ ¬ (σ 169 0) < p1) → ((¬ p2 < 0 ∧ ¬ (σ 169 0) < p2) → vt_Mv g 1 D_X12_findStands [.ref (g.2.1 168), .int p1] σ (fun σ3 => TT g (vt_R 6) 0 0 D_X12_rents none 29 [some (.ref (g.2.1 168)), some (.int p1), some (.int p2), some (.int 0), some (.int 0)] [] σ3 P)) ∧ (¬ (¬ p2 < 0 ∧ ¬ (σ 169 0) < p2) → P (some (.int (-1000000001))) σ)) ∧ (¬ (¬ p1 < 0 ∧ ¬ (σ 169 0) < p1) → P (some (.int (-1000000001))) σ)) :
  TT g (vt_R 6) 0 0 D_X12_rents none 0 [some (.ref (g.2.1 168)), some (.int p1), some (.int p2), none, none] [] σ P := by
  refine q_aload_n dX12_rents_0 rfl ?_
  refine q_iload_n dX12_rents_1 rfl ?_
  refine q_cVb (C := ¬ p1 < 0 ∧ ¬ (σ 169 0) < p1) (d' := 1) [.int p1] [] dX12_rents_2 ok_X12_isPast mk_RX12_110 rc_168 rfl (Nat.le_of_ble_eq_true rfl) (by first | decide | omega) (fun Φ h9 => c_X12_isPast (σ := σ) Φ h9) (fun c1 => ?_) (fun c1 => ?_)
  · have h := h.1 c1
    refine q_if_eq (tgt := 16) dX12_rents_5 (by decide) (fun c => absurd c (by decide)) (fun _ => ?_)
    refine q_aload_n dX12_rents_8 rfl ?_
    refine q_iload_n dX12_rents_9 rfl ?_
    refine q_cVb (C := ¬ p2 < 0 ∧ ¬ (σ 169 0) < p2) (d' := 1) [.int p2] [] dX12_rents_10 ok_X12_isPast mk_RX12_110 rc_168 rfl (Nat.le_of_ble_eq_true rfl) (by first | decide | omega) (fun Φ h9 => c_X12_isPast (σ := σ) Φ h9) (fun c2 => ?_) (fun c2 => ?_)
    · have h := h.1 c2
      refine q_if_ne (tgt := 19) dX12_rents_13 (by decide) (fun _ => ?_) (fun c => absurd c (by decide))
      refine q_aload_n dX12_rents_19 rfl ?_
      refine q_iload_n dX12_rents_20 rfl ?_
      refine q_cV (d' := 1) [.int p1] [] dX12_rents_21 ok_X12_findStands mk_RX12_72 rc_168 rfl (Nat.le_of_ble_eq_true rfl) (by first | decide | omega) h (fun v σ3 h => ?_)
      obtain ⟨rfl, h⟩ := h
      refine q_iconst (v := 0) dX12_rents_24 (by decide) ?_
      refine q_istore_n (L' := [some (.ref (g.2.1 168)), some (.int p1), some (.int p2), some (.int 0), none]) dX12_rents_25 (by decide) rfl rfl ?_
      refine q_iconst (v := 0) dX12_rents_26 (by decide) ?_
      refine q_istore (L' := [some (.ref (g.2.1 168)), some (.int p1), some (.int p2), some (.int 0), some (.int 0)]) dX12_rents_27 (by decide) rfl rfl ?_
      exact h
    · have h := h.2 c2
      refine q_if_ne (tgt := 19) dX12_rents_13 (by decide) (fun c => absurd rfl c) (fun _ => ?_)
      refine q_ldc dX12_rents_16 ct_RX12_57 ?_
      exact q_iret .int rfl rfl dX12_rents_18 h
  · have h := h.2 c1
    refine q_if_eq (tgt := 16) dX12_rents_5 (by decide) (fun _ => ?_) (fun c => absurd (by decide) c)
    refine q_ldc dX12_rents_16 ct_RX12_57 ?_
    exact q_iret .int rfl rfl dX12_rents_18 h

theorem s_X12_rents_29 (g : vt_GT) (σ : vt_Sg) (P : Option Value → vt_Sg → Prop) (x1 : Int32) (x2 : Int32) (x3 : Int32) (x4 : Int32)
  (h : ((σ 169 2) ≤ x4 → P (some (.int x3)) σ) ∧ (¬ (σ 169 2) ≤ x4 → vt_Mi g 5 D_X12_rentOf [.ref (g.2.1 168), .int x4, .int x1, .int x2] σ (fun r3 σ2 => TT g (vt_R 6) 0 0 D_X12_rents none 29 [some (.ref (g.2.1 168)), some (.int x1), some (.int x2), some (.int (x3 + r3)), some (.int (x4 + 1))] [] σ2 P))) :
  TT g (vt_R 6) 0 0 D_X12_rents none 29 [some (.ref (g.2.1 168)), some (.int x1), some (.int x2), some (.int x3), some (.int x4)] [] σ P := by
  refine q_iload dX12_rents_29 rfl ?_
  refine q_aload_n dX12_rents_31 rfl ?_
  refine q_getR dX12_rents_32 fF_RX12_9 fl_168_0 ?_
  refine q_iconst (v := 2) dX12_rents_35 (by decide) ?_
  refine q_ialdX (v := (σ 169 2)) dX12_rents_36 ar_169 (vt_inl rfl) rfl ?_
  refine q_icmp_ge (tgt := 57) dX12_rents_37 (by decide) (fun c1 => ?_) (fun c1 => ?_)
  · have h := h.1 c1
    refine q_iload_n dX12_rents_57 rfl ?_
    exact q_iret .int rfl rfl dX12_rents_58 h
  · have h := h.2 c1
    refine q_iload_n dX12_rents_40 rfl ?_
    refine q_aload_n dX12_rents_41 rfl ?_
    refine q_iload dX12_rents_42 rfl ?_
    refine q_iload_n dX12_rents_44 rfl ?_
    refine q_iload_n dX12_rents_45 rfl ?_
    refine q_cV (d' := 5) [.int x4, .int x1, .int x2] [.int x3] dX12_rents_46 ok_X12_rentOf mk_RX12_242 rc_168 rfl (Nat.le_of_ble_eq_true rfl) (by first | decide | omega) h (fun v σ2 h => ?_)
    obtain ⟨r3, rfl, h⟩ := h
    refine q_iadd dX12_rents_49 ?_
    refine q_istore_n (L' := [some (.ref (g.2.1 168)), some (.int x1), some (.int x2), some (.int (x3 + r3)), some (.int x4)]) dX12_rents_50 (by decide) rfl rfl ?_
    refine q_iinc (L' := [some (.ref (g.2.1 168)), some (.int x1), some (.int x2), some (.int (x3 + r3)), some (.int (x4 + 1))]) dX12_rents_51 rfl (by decide) rfl rfl ?_
    refine q_goto (tgt := 29) dX12_rents_54 (by decide) ?_
    exact h

theorem s_X12_charge_0 (g : vt_GT) (σ : vt_Sg) (P : Option Value → vt_Sg → Prop) (p1 : Int32) (p2 : Int32) (p3 : Int32)
  (h : ((¬ p1 < 0 ∧ ¬ (σ 169 2) - 1 < p1) → ((¬ p2 < 0 ∧ ¬ (σ 169 0) < p2) → ((¬ p3 < (0 : Int32) ∧ ¬ (999999 : Int32) < p3) → vt_Mv g 1 D_X12_findStands [.ref (g.2.1 168), .int p2] σ (fun σ4 => vp_in p1 12 ∧ (vp_in (30 + 8 * p1 + 0) 2220 ∧ (((¬ (σ4 175 p1.toNatClampNeg) < 0 ∧ ¬ σ4 169 (30 + 8 * p1 + 0).toNatClampNeg = 3) → TT g (vt_R 2) 0 0 D_X12_charge none 50 [some (.ref (g.2.1 168)), some (.int p1), some (.int p2), some (.int p3), some (.int 0), some (.int 0), none, none] [] σ4 P) ∧ (¬ (¬ (σ4 175 p1.toNatClampNeg) < 0 ∧ ¬ σ4 169 (30 + 8 * p1 + 0).toNatClampNeg = 3) → P (some (.int 0)) σ4))))) ∧ (¬ (¬ p3 < (0 : Int32) ∧ ¬ (999999 : Int32) < p3) → P (some (.int (-1000000001))) σ)) ∧ (¬ (¬ p2 < 0 ∧ ¬ (σ 169 0) < p2) → P (some (.int (-1000000001))) σ)) ∧ (¬ (¬ p1 < 0 ∧ ¬ (σ 169 2) - 1 < p1) → P (some (.int (-1000000001))) σ)) :
  TT g (vt_R 2) 0 0 D_X12_charge none 0 [some (.ref (g.2.1 168)), some (.int p1), some (.int p2), some (.int p3), none, none, none, none] [] σ P := by
  refine q_aload_n dX12_charge_0 rfl ?_
  refine q_iload_n dX12_charge_1 rfl ?_
  refine q_cVb (C := ¬ p1 < 0 ∧ ¬ (σ 169 2) - 1 < p1) (d' := 1) [.int p1] [] dX12_charge_2 ok_X12_isShop mk_RX12_65 rc_168 rfl (Nat.le_of_ble_eq_true rfl) (by first | decide | omega) (fun Φ h9 => c_X12_isShop (σ := σ) Φ h9) (fun c1 => ?_) (fun c1 => ?_)
  · have h := h.1 c1
    refine q_if_eq (tgt := 26) dX12_charge_5 (by decide) (fun c => absurd c (by decide)) (fun _ => ?_)
    refine q_aload_n dX12_charge_8 rfl ?_
    refine q_iload_n dX12_charge_9 rfl ?_
    refine q_cVb (C := ¬ p2 < 0 ∧ ¬ (σ 169 0) < p2) (d' := 1) [.int p2] [] dX12_charge_10 ok_X12_isPast mk_RX12_110 rc_168 rfl (Nat.le_of_ble_eq_true rfl) (by first | decide | omega) (fun Φ h9 => c_X12_isPast (σ := σ) Φ h9) (fun c2 => ?_) (fun c2 => ?_)
    · have h := h.1 c2
      refine q_if_eq (tgt := 26) dX12_charge_13 (by decide) (fun c => absurd c (by decide)) (fun _ => ?_)
      refine q_iload_n dX12_charge_16 rfl ?_
      refine q_iconst (v := 0) dX12_charge_17 (by decide) ?_
      refine q_ldc dX12_charge_18 ct_RX12_245 ?_
      refine q_cSb (C := ¬ p3 < (0 : Int32) ∧ ¬ (999999 : Int32) < p3) (d' := 0) [.int p3, .int 0, .int 999999] [] dX12_charge_20 ok_X12_within mk_RX12_49 rfl (Nat.le_of_ble_eq_true rfl) (by first | decide | omega) (fun Φ h9 => c_X12_within (σ := σ) Φ h9) (fun c3 => ?_) (fun c3 => ?_)
      · have h := h.1 c3
        refine q_if_ne (tgt := 29) dX12_charge_23 (by decide) (fun _ => ?_) (fun c => absurd c (by decide))
        refine q_aload_n dX12_charge_29 rfl ?_
        refine q_iload_n dX12_charge_30 rfl ?_
        refine q_cV (d' := 1) [.int p2] [] dX12_charge_31 ok_X12_findStands mk_RX12_72 rc_168 rfl (Nat.le_of_ble_eq_true rfl) (by first | decide | omega) h (fun v σ4 h => ?_)
        obtain ⟨rfl, h⟩ := h
        refine q_aload_n dX12_charge_34 rfl ?_
        refine q_iload_n dX12_charge_35 rfl ?_
        obtain ⟨hp5, h⟩ := h
        obtain ⟨hp6, h⟩ := h
        refine q_cVb (C := ¬ (σ4 175 p1.toNatClampNeg) < 0 ∧ ¬ σ4 169 (30 + 8 * p1 + 0).toNatClampNeg = 3) (d' := 1) [.int p1] [] dX12_charge_36 ok_X12_pays mk_RX12_246 rc_168 rfl (Nat.le_of_ble_eq_true rfl) (by first | decide | omega) (fun Φ h9 => c_X12_pays (σ := σ4) hp5 hp6 Φ h9) (fun c7 => ?_) (fun c7 => ?_)
        · have h := h.1 c7
          refine q_if_ne (tgt := 44) dX12_charge_39 (by decide) (fun _ => ?_) (fun c => absurd c (by decide))
          refine q_iconst (v := 0) dX12_charge_44 (by decide) ?_
          refine q_istore (L' := [some (.ref (g.2.1 168)), some (.int p1), some (.int p2), some (.int p3), some (.int 0), none, none, none]) dX12_charge_45 (by decide) rfl rfl ?_
          refine q_iconst (v := 0) dX12_charge_47 (by decide) ?_
          refine q_istore (L' := [some (.ref (g.2.1 168)), some (.int p1), some (.int p2), some (.int p3), some (.int 0), some (.int 0), none, none]) dX12_charge_48 (by decide) rfl rfl ?_
          exact h
        · have h := h.2 c7
          refine q_if_ne (tgt := 44) dX12_charge_39 (by decide) (fun c => absurd rfl c) (fun _ => ?_)
          refine q_iconst (v := 0) dX12_charge_42 (by decide) ?_
          exact q_iret .int rfl rfl dX12_charge_43 h
      · have h := h.2 c3
        refine q_if_ne (tgt := 29) dX12_charge_23 (by decide) (fun c => absurd rfl c) (fun _ => ?_)
        refine q_ldc dX12_charge_26 ct_RX12_57 ?_
        exact q_iret .int rfl rfl dX12_charge_28 h
    · have h := h.2 c2
      refine q_if_eq (tgt := 26) dX12_charge_13 (by decide) (fun _ => ?_) (fun c => absurd (by decide) c)
      refine q_ldc dX12_charge_26 ct_RX12_57 ?_
      exact q_iret .int rfl rfl dX12_charge_28 h
  · have h := h.2 c1
    refine q_if_eq (tgt := 26) dX12_charge_5 (by decide) (fun _ => ?_) (fun c => absurd (by decide) c)
    refine q_ldc dX12_charge_26 ct_RX12_57 ?_
    exact q_iret .int rfl rfl dX12_charge_28 h

theorem s_X12_charge_50 (g : vt_GT) (σ : vt_Sg) (P : Option Value → vt_Sg → Prop) (x1 : Int32) (x2 : Int32) (x3 : Int32) (x4 : Int32) (x5 : Int32)
  (h : (12 ≤ x5 → TT g (vt_R 2) 0 0 D_X12_charge none 105 [some (.ref (g.2.1 168)), some (.int x1), some (.int x2), some (.int x3), some (.int x4), some (.int x3), some (.int 0), some (.int 0)] [] σ P) ∧ (¬ 12 ≤ x5 → vp_in x5 12 ∧ (vp_in (30 + 8 * x5 + 0) 2220 ∧ (((¬ (σ 175 x5.toNatClampNeg) < 0 ∧ ¬ σ 169 (30 + 8 * x5 + 0).toNatClampNeg = 3) → vp_in (10 + (σ 175 x5.toNatClampNeg)) 2220 ∧ (TT g (vt_R 2) 0 0 D_X12_charge none 50 [some (.ref (g.2.1 168)), some (.int x1), some (.int x2), some (.int x3), some (.int (x4 + (σ 169 (10 + (σ 175 x5.toNatClampNeg)).toNatClampNeg))), some (.int (x5 + 1)), none, none] [] σ P)) ∧ (¬ (¬ (σ 175 x5.toNatClampNeg) < 0 ∧ ¬ σ 169 (30 + 8 * x5 + 0).toNatClampNeg = 3) → TT g (vt_R 2) 0 0 D_X12_charge none 50 [some (.ref (g.2.1 168)), some (.int x1), some (.int x2), some (.int x3), some (.int (x4 + 0)), some (.int (x5 + 1)), none, none] [] σ P))))) :
  TT g (vt_R 2) 0 0 D_X12_charge none 50 [some (.ref (g.2.1 168)), some (.int x1), some (.int x2), some (.int x3), some (.int x4), some (.int x5), none, none] [] σ P := by
  refine q_iload dX12_charge_50 rfl ?_
  refine q_bipush (v := 12) dX12_charge_52 (by decide) ?_
  refine q_icmp_ge (tgt := 96) dX12_charge_54 (by decide) (fun c1 => ?_) (fun c1 => ?_)
  · have h := h.1 c1
    refine q_iload_n dX12_charge_96 rfl ?_
    refine q_istore (L' := [some (.ref (g.2.1 168)), some (.int x1), some (.int x2), some (.int x3), some (.int x4), some (.int x3), none, none]) dX12_charge_97 (by decide) rfl rfl ?_
    refine q_iconst (v := 0) dX12_charge_99 (by decide) ?_
    refine q_istore (L' := [some (.ref (g.2.1 168)), some (.int x1), some (.int x2), some (.int x3), some (.int x4), some (.int x3), some (.int 0), none]) dX12_charge_100 (by decide) rfl rfl ?_
    refine q_iconst (v := 0) dX12_charge_102 (by decide) ?_
    refine q_istore (L' := [some (.ref (g.2.1 168)), some (.int x1), some (.int x2), some (.int x3), some (.int x4), some (.int x3), some (.int 0), some (.int 0)]) dX12_charge_103 (by decide) rfl rfl ?_
    exact h
  · have h := h.2 c1
    refine q_iload dX12_charge_57 rfl ?_
    refine q_aload_n dX12_charge_59 rfl ?_
    refine q_iload dX12_charge_60 rfl ?_
    obtain ⟨hp2, h⟩ := h
    obtain ⟨hp3, h⟩ := h
    refine q_cVb (C := ¬ (σ 175 x5.toNatClampNeg) < 0 ∧ ¬ σ 169 (30 + 8 * x5 + 0).toNatClampNeg = 3) (d' := 1) [.int x5] [.int x4] dX12_charge_62 ok_X12_pays mk_RX12_246 rc_168 rfl (Nat.le_of_ble_eq_true rfl) (by first | decide | omega) (fun Φ h9 => c_X12_pays (σ := σ) hp2 hp3 Φ h9) (fun c4 => ?_) (fun c4 => ?_)
    · have h := h.1 c4
      refine q_if_eq (tgt := 86) dX12_charge_65 (by decide) (fun c => absurd c (by decide)) (fun _ => ?_)
      refine q_aload_n dX12_charge_68 rfl ?_
      refine q_getR dX12_charge_69 fF_RX12_9 fl_168_0 ?_
      refine q_bipush (v := 10) dX12_charge_72 (by decide) ?_
      refine q_aload_n dX12_charge_74 rfl ?_
      refine q_getR dX12_charge_75 fF_RX12_28 fl_168_9 ?_
      refine q_iload dX12_charge_78 rfl ?_
      refine q_ialdX (v := (σ 175 x5.toNatClampNeg)) dX12_charge_80 ar_175 hp2 rfl ?_
      refine q_iadd dX12_charge_81 ?_
      obtain ⟨hi5, h⟩ := h
      refine q_ialdX (v := (σ 169 (10 + (σ 175 x5.toNatClampNeg)).toNatClampNeg)) dX12_charge_82 ar_169 hi5 rfl ?_
      refine q_goto (tgt := 87) dX12_charge_83 (by decide) ?_
      refine q_iadd dX12_charge_87 ?_
      refine q_istore (L' := [some (.ref (g.2.1 168)), some (.int x1), some (.int x2), some (.int x3), some (.int (x4 + (σ 169 (10 + (σ 175 x5.toNatClampNeg)).toNatClampNeg))), some (.int x5), none, none]) dX12_charge_88 (by decide) rfl rfl ?_
      refine q_iinc (L' := [some (.ref (g.2.1 168)), some (.int x1), some (.int x2), some (.int x3), some (.int (x4 + (σ 169 (10 + (σ 175 x5.toNatClampNeg)).toNatClampNeg))), some (.int (x5 + 1)), none, none]) dX12_charge_90 rfl (by decide) rfl rfl ?_
      refine q_goto (tgt := 50) dX12_charge_93 (by decide) ?_
      exact h
    · have h := h.2 c4
      refine q_if_eq (tgt := 86) dX12_charge_65 (by decide) (fun _ => ?_) (fun c => absurd (by decide) c)
      refine q_iconst (v := 0) dX12_charge_86 (by decide) ?_
      refine q_iadd dX12_charge_87 ?_
      refine q_istore (L' := [some (.ref (g.2.1 168)), some (.int x1), some (.int x2), some (.int x3), some (.int (x4 + 0)), some (.int x5), none, none]) dX12_charge_88 (by decide) rfl rfl ?_
      refine q_iinc (L' := [some (.ref (g.2.1 168)), some (.int x1), some (.int x2), some (.int x3), some (.int (x4 + 0)), some (.int (x5 + 1)), none, none]) dX12_charge_90 rfl (by decide) rfl rfl ?_
      refine q_goto (tgt := 50) dX12_charge_93 (by decide) ?_
      exact h

theorem s_X12_charge_105 (g : vt_GT) (σ : vt_Sg) (P : Option Value → vt_Sg → Prop) (x1 : Int32) (x2 : Int32) (x3 : Int32) (x4 : Int32) (x5 : Int32) (x6 : Int32) (x7 : Int32)
  (h : (12 ≤ x7 → vp_in x1 12 ∧ (vp_in (10 + (σ 175 x1.toNatClampNeg)) 2220 ∧ (¬ x4 = 0 ∧ ((x5 ≤ x6 → P (some (.int (((x3 * (σ 169 (10 + (σ 175 x1.toNatClampNeg)).toNatClampNeg)) / x4) + 0))) σ) ∧ (¬ x5 ≤ x6 → P (some (.int (((x3 * (σ 169 (10 + (σ 175 x1.toNatClampNeg)).toNatClampNeg)) / x4) + 1))) σ))))) ∧ (¬ 12 ≤ x7 → vp_in x7 12 ∧ (vp_in (30 + 8 * x7 + 0) 2220 ∧ (((¬ (σ 175 x7.toNatClampNeg) < 0 ∧ ¬ σ 169 (30 + 8 * x7 + 0).toNatClampNeg = 3) → vp_in (10 + (σ 175 x7.toNatClampNeg)) 2220 ∧ (¬ x4 = 0 ∧ (vp_in x1 12 ∧ (((σ 175 x1.toNatClampNeg) ≤ (σ 175 x7.toNatClampNeg) → TT g (vt_R 2) 0 0 D_X12_charge none 105 [some (.ref (g.2.1 168)), some (.int x1), some (.int x2), some (.int x3), some (.int x4), some (.int (x5 - ((x3 * (σ 169 (10 + (σ 175 x7.toNatClampNeg)).toNatClampNeg)) / x4))), some (.int (x6 + 0)), some (.int (x7 + 1))] [] σ P) ∧ (¬ (σ 175 x1.toNatClampNeg) ≤ (σ 175 x7.toNatClampNeg) → TT g (vt_R 2) 0 0 D_X12_charge none 105 [some (.ref (g.2.1 168)), some (.int x1), some (.int x2), some (.int x3), some (.int x4), some (.int (x5 - ((x3 * (σ 169 (10 + (σ 175 x7.toNatClampNeg)).toNatClampNeg)) / x4))), some (.int (x6 + 1)), some (.int (x7 + 1))] [] σ P))))) ∧ (¬ (¬ (σ 175 x7.toNatClampNeg) < 0 ∧ ¬ σ 169 (30 + 8 * x7 + 0).toNatClampNeg = 3) → TT g (vt_R 2) 0 0 D_X12_charge none 105 [some (.ref (g.2.1 168)), some (.int x1), some (.int x2), some (.int x3), some (.int x4), some (.int (x5 - 0)), some (.int (x6 + 0)), some (.int (x7 + 1))] [] σ P))))) :
  TT g (vt_R 2) 0 0 D_X12_charge none 105 [some (.ref (g.2.1 168)), some (.int x1), some (.int x2), some (.int x3), some (.int x4), some (.int x5), some (.int x6), some (.int x7)] [] σ P := by
  refine q_iload dX12_charge_105 rfl ?_
  refine q_bipush (v := 12) dX12_charge_107 (by decide) ?_
  refine q_icmp_ge (tgt := 191) dX12_charge_109 (by decide) (fun c1 => ?_) (fun c1 => ?_)
  · have h := h.1 c1
    refine q_iload_n dX12_charge_191 rfl ?_
    refine q_aload_n dX12_charge_192 rfl ?_
    refine q_getR dX12_charge_193 fF_RX12_9 fl_168_0 ?_
    refine q_bipush (v := 10) dX12_charge_196 (by decide) ?_
    refine q_aload_n dX12_charge_198 rfl ?_
    refine q_getR dX12_charge_199 fF_RX12_28 fl_168_9 ?_
    refine q_iload_n dX12_charge_202 rfl ?_
    obtain ⟨hi2, h⟩ := h
    refine q_ialdX (v := (σ 175 x1.toNatClampNeg)) dX12_charge_203 ar_175 hi2 rfl ?_
    refine q_iadd dX12_charge_204 ?_
    obtain ⟨hi3, h⟩ := h
    refine q_ialdX (v := (σ 169 (10 + (σ 175 x1.toNatClampNeg)).toNatClampNeg)) dX12_charge_205 ar_169 hi3 rfl ?_
    refine q_imul dX12_charge_206 ?_
    refine q_iload dX12_charge_207 rfl ?_
    obtain ⟨hz4, h⟩ := h
    refine q_idiv dX12_charge_209 hz4 ?_
    refine q_iload dX12_charge_210 rfl ?_
    refine q_iload dX12_charge_212 rfl ?_
    refine q_icmp_ge (tgt := 221) dX12_charge_214 (by decide) (fun c5 => ?_) (fun c5 => ?_)
    · have h := h.1 c5
      refine q_iconst (v := 0) dX12_charge_221 (by decide) ?_
      refine q_iadd dX12_charge_222 ?_
      exact q_iret .int rfl rfl dX12_charge_223 h
    · have h := h.2 c5
      refine q_iconst (v := 1) dX12_charge_217 (by decide) ?_
      refine q_goto (tgt := 222) dX12_charge_218 (by decide) ?_
      refine q_iadd dX12_charge_222 ?_
      exact q_iret .int rfl rfl dX12_charge_223 h
  · have h := h.2 c1
    refine q_iload dX12_charge_112 rfl ?_
    refine q_aload_n dX12_charge_114 rfl ?_
    refine q_iload dX12_charge_115 rfl ?_
    obtain ⟨hp6, h⟩ := h
    obtain ⟨hp7, h⟩ := h
    refine q_cVb (C := ¬ (σ 175 x7.toNatClampNeg) < 0 ∧ ¬ σ 169 (30 + 8 * x7 + 0).toNatClampNeg = 3) (d' := 1) [.int x7] [.int x5] dX12_charge_117 ok_X12_pays mk_RX12_246 rc_168 rfl (Nat.le_of_ble_eq_true rfl) (by first | decide | omega) (fun Φ h9 => c_X12_pays (σ := σ) hp6 hp7 Φ h9) (fun c8 => ?_) (fun c8 => ?_)
    · have h := h.1 c8
      refine q_if_eq (tgt := 146) dX12_charge_120 (by decide) (fun c => absurd c (by decide)) (fun _ => ?_)
      refine q_iload_n dX12_charge_123 rfl ?_
      refine q_aload_n dX12_charge_124 rfl ?_
      refine q_getR dX12_charge_125 fF_RX12_9 fl_168_0 ?_
      refine q_bipush (v := 10) dX12_charge_128 (by decide) ?_
      refine q_aload_n dX12_charge_130 rfl ?_
      refine q_getR dX12_charge_131 fF_RX12_28 fl_168_9 ?_
      refine q_iload dX12_charge_134 rfl ?_
      refine q_ialdX (v := (σ 175 x7.toNatClampNeg)) dX12_charge_136 ar_175 hp6 rfl ?_
      refine q_iadd dX12_charge_137 ?_
      obtain ⟨hi9, h⟩ := h
      refine q_ialdX (v := (σ 169 (10 + (σ 175 x7.toNatClampNeg)).toNatClampNeg)) dX12_charge_138 ar_169 hi9 rfl ?_
      refine q_imul dX12_charge_139 ?_
      refine q_iload dX12_charge_140 rfl ?_
      obtain ⟨hz10, h⟩ := h
      refine q_idiv dX12_charge_142 hz10 ?_
      refine q_goto (tgt := 147) dX12_charge_143 (by decide) ?_
      refine q_isub dX12_charge_147 ?_
      refine q_istore (L' := [some (.ref (g.2.1 168)), some (.int x1), some (.int x2), some (.int x3), some (.int x4), some (.int (x5 - ((x3 * (σ 169 (10 + (σ 175 x7.toNatClampNeg)).toNatClampNeg)) / x4))), some (.int x6), some (.int x7)]) dX12_charge_148 (by decide) rfl rfl ?_
      refine q_iload dX12_charge_150 rfl ?_
      refine q_aload_n dX12_charge_152 rfl ?_
      refine q_iload dX12_charge_153 rfl ?_
      refine q_cVb (C := ¬ (σ 175 x7.toNatClampNeg) < 0 ∧ ¬ σ 169 (30 + 8 * x7 + 0).toNatClampNeg = 3) (d' := 1) [.int x7] [.int x6] dX12_charge_155 ok_X12_pays mk_RX12_246 rc_168 rfl (Nat.le_of_ble_eq_true rfl) (by first | decide | omega) (fun Φ h9 => c_X12_pays (σ := σ) hp6 hp7 Φ h9) (fun _ => ?_) (fun c => absurd c8 c)
      refine q_if_eq (tgt := 181) dX12_charge_158 (by decide) (fun c => absurd c (by decide)) (fun _ => ?_)
      refine q_aload_n dX12_charge_161 rfl ?_
      refine q_getR dX12_charge_162 fF_RX12_28 fl_168_9 ?_
      refine q_iload dX12_charge_165 rfl ?_
      refine q_ialdX (v := (σ 175 x7.toNatClampNeg)) dX12_charge_167 ar_175 hp6 rfl ?_
      refine q_aload_n dX12_charge_168 rfl ?_
      refine q_getR dX12_charge_169 fF_RX12_28 fl_168_9 ?_
      refine q_iload_n dX12_charge_172 rfl ?_
      obtain ⟨hi12, h⟩ := h
      refine q_ialdX (v := (σ 175 x1.toNatClampNeg)) dX12_charge_173 ar_175 hi12 rfl ?_
      refine q_icmp_ge (tgt := 181) dX12_charge_174 (by decide) (fun c13 => ?_) (fun c13 => ?_)
      · have h := h.1 c13
        refine q_iconst (v := 0) dX12_charge_181 (by decide) ?_
        refine q_iadd dX12_charge_182 ?_
        refine q_istore (L' := [some (.ref (g.2.1 168)), some (.int x1), some (.int x2), some (.int x3), some (.int x4), some (.int (x5 - ((x3 * (σ 169 (10 + (σ 175 x7.toNatClampNeg)).toNatClampNeg)) / x4))), some (.int (x6 + 0)), some (.int x7)]) dX12_charge_183 (by decide) rfl rfl ?_
        refine q_iinc (L' := [some (.ref (g.2.1 168)), some (.int x1), some (.int x2), some (.int x3), some (.int x4), some (.int (x5 - ((x3 * (σ 169 (10 + (σ 175 x7.toNatClampNeg)).toNatClampNeg)) / x4))), some (.int (x6 + 0)), some (.int (x7 + 1))]) dX12_charge_185 rfl (by decide) rfl rfl ?_
        refine q_goto (tgt := 105) dX12_charge_188 (by decide) ?_
        exact h
      · have h := h.2 c13
        refine q_iconst (v := 1) dX12_charge_177 (by decide) ?_
        refine q_goto (tgt := 182) dX12_charge_178 (by decide) ?_
        refine q_iadd dX12_charge_182 ?_
        refine q_istore (L' := [some (.ref (g.2.1 168)), some (.int x1), some (.int x2), some (.int x3), some (.int x4), some (.int (x5 - ((x3 * (σ 169 (10 + (σ 175 x7.toNatClampNeg)).toNatClampNeg)) / x4))), some (.int (x6 + 1)), some (.int x7)]) dX12_charge_183 (by decide) rfl rfl ?_
        refine q_iinc (L' := [some (.ref (g.2.1 168)), some (.int x1), some (.int x2), some (.int x3), some (.int x4), some (.int (x5 - ((x3 * (σ 169 (10 + (σ 175 x7.toNatClampNeg)).toNatClampNeg)) / x4))), some (.int (x6 + 1)), some (.int (x7 + 1))]) dX12_charge_185 rfl (by decide) rfl rfl ?_
        refine q_goto (tgt := 105) dX12_charge_188 (by decide) ?_
        exact h
    · have h := h.2 c8
      refine q_if_eq (tgt := 146) dX12_charge_120 (by decide) (fun _ => ?_) (fun c => absurd (by decide) c)
      refine q_iconst (v := 0) dX12_charge_146 (by decide) ?_
      refine q_isub dX12_charge_147 ?_
      refine q_istore (L' := [some (.ref (g.2.1 168)), some (.int x1), some (.int x2), some (.int x3), some (.int x4), some (.int (x5 - 0)), some (.int x6), some (.int x7)]) dX12_charge_148 (by decide) rfl rfl ?_
      refine q_iload dX12_charge_150 rfl ?_
      refine q_aload_n dX12_charge_152 rfl ?_
      refine q_iload dX12_charge_153 rfl ?_
      refine q_cVb (C := ¬ (σ 175 x7.toNatClampNeg) < 0 ∧ ¬ σ 169 (30 + 8 * x7 + 0).toNatClampNeg = 3) (d' := 1) [.int x7] [.int x6] dX12_charge_155 ok_X12_pays mk_RX12_246 rc_168 rfl (Nat.le_of_ble_eq_true rfl) (by first | decide | omega) (fun Φ h9 => c_X12_pays (σ := σ) hp6 hp7 Φ h9) (fun c => absurd c c8) (fun _ => ?_)
      refine q_if_eq (tgt := 181) dX12_charge_158 (by decide) (fun _ => ?_) (fun c => absurd (by decide) c)
      refine q_iconst (v := 0) dX12_charge_181 (by decide) ?_
      refine q_iadd dX12_charge_182 ?_
      refine q_istore (L' := [some (.ref (g.2.1 168)), some (.int x1), some (.int x2), some (.int x3), some (.int x4), some (.int (x5 - 0)), some (.int (x6 + 0)), some (.int x7)]) dX12_charge_183 (by decide) rfl rfl ?_
      refine q_iinc (L' := [some (.ref (g.2.1 168)), some (.int x1), some (.int x2), some (.int x3), some (.int x4), some (.int (x5 - 0)), some (.int (x6 + 0)), some (.int (x7 + 1))]) dX12_charge_185 rfl (by decide) rfl rfl ?_
      refine q_goto (tgt := 105) dX12_charge_188 (by decide) ?_
      exact h

theorem s_X12_findFall_0 (g : vt_GT) (σ : vt_Sg) (P : Option Value → vt_Sg → Prop) 
  (h : TT g (vt_R 5) 0 0 D_X12_findFall none 4 [some (.ref (g.2.1 168)), some (.int 0), some (.int 0), none] [] σ P) :
  TT g (vt_R 5) 0 0 D_X12_findFall none 0 [some (.ref (g.2.1 168)), none, none, none] [] σ P := by
  refine q_iconst (v := 0) dX12_findFall_0 (by decide) ?_
  refine q_istore_n (L' := [some (.ref (g.2.1 168)), some (.int 0), none, none]) dX12_findFall_1 (by decide) rfl rfl ?_
  refine q_iconst (v := 0) dX12_findFall_2 (by decide) ?_
  refine q_istore_n (L' := [some (.ref (g.2.1 168)), some (.int 0), some (.int 0), none]) dX12_findFall_3 (by decide) rfl rfl ?_
  exact h

theorem s_X12_findFall_4 (g : vt_GT) (σ : vt_Sg) (P : Option Value → vt_Sg → Prop) (x1 : Int32) (x2 : Int32)
  (h : ((σ 169 2) ≤ x2 → P (some (.int x1)) σ) ∧ (¬ (σ 169 2) ≤ x2 → vp_in x2 12 ∧ (((σ 175 x2.toNatClampNeg) < 0 → TT g (vt_R 5) 0 0 D_X12_findFall none 4 [some (.ref (g.2.1 168)), some (.int x1), some (.int (x2 + 1)), none] [] σ P) ∧ (¬ (σ 175 x2.toNatClampNeg) < 0 → vp_in (30 + 8 * x2 + 7) 2220 ∧ (((0 < (σ 169 (30 + 8 * x2 + 7).toNatClampNeg)) → vt_Mi g 4 D_X12_worked [.ref (g.2.1 168), .int x2, .int 2, .int (σ 169 0), .int (σ 169 0)] σ (fun r7 σ6 => (r7 = 0 → TT g (vt_R 5) 0 0 D_X12_findFall none 4 [some (.ref (g.2.1 168)), some (.int x1), some (.int (x2 + 1)), none] [] σ6 P) ∧ (¬ r7 = 0 → vp_in x1 12 ∧ (TT g (vt_R 5) 0 0 D_X12_findFall none 4 [some (.ref (g.2.1 168)), some (.int (x1 + 1)), some (.int 0), none] [] (su (su σ6 178 (upd (σ6 178) x1.toNatClampNeg x2)) 175 (upd (σ6 175) x2.toNatClampNeg (-1))) P)))) ∧ (¬ (0 < (σ 169 (30 + 8 * x2 + 7).toNatClampNeg)) → TT g (vt_R 5) 0 0 D_X12_findFall none 4 [some (.ref (g.2.1 168)), some (.int x1), some (.int (x2 + 1)), none] [] σ P)))))) :
  TT g (vt_R 5) 0 0 D_X12_findFall none 4 [some (.ref (g.2.1 168)), some (.int x1), some (.int x2), none] [] σ P := by
  refine q_iload_n dX12_findFall_4 rfl ?_
  refine q_aload_n dX12_findFall_5 rfl ?_
  refine q_getR dX12_findFall_6 fF_RX12_9 fl_168_0 ?_
  refine q_iconst (v := 2) dX12_findFall_9 (by decide) ?_
  refine q_ialdX (v := (σ 169 2)) dX12_findFall_10 ar_169 (vt_inl rfl) rfl ?_
  refine q_icmp_ge (tgt := 90) dX12_findFall_11 (by decide) (fun c1 => ?_) (fun c1 => ?_)
  · have h := h.1 c1
    refine q_iload_n dX12_findFall_90 rfl ?_
    exact q_iret .int rfl rfl dX12_findFall_91 h
  · have h := h.2 c1
    refine q_aload_n dX12_findFall_14 rfl ?_
    refine q_getR dX12_findFall_15 fF_RX12_28 fl_168_9 ?_
    refine q_iload_n dX12_findFall_18 rfl ?_
    obtain ⟨hi2, h⟩ := h
    refine q_ialdX (v := (σ 175 x2.toNatClampNeg)) dX12_findFall_19 ar_175 hi2 rfl ?_
    refine q_if_lt (tgt := 56) dX12_findFall_20 (by decide) (fun c3 => ?_) (fun c3 => ?_)
    · have h := h.1 c3
      refine q_iconst (v := 0) dX12_findFall_56 (by decide) ?_
      refine q_istore_n (L' := [some (.ref (g.2.1 168)), some (.int x1), some (.int x2), some (.int 0)]) dX12_findFall_57 (by decide) rfl rfl ?_
      refine q_iload_n dX12_findFall_58 rfl ?_
      refine q_if_eq (tgt := 84) dX12_findFall_59 (by decide) (fun _ => ?_) (fun c => absurd (by decide) c)
      refine q_iinc (L' := [some (.ref (g.2.1 168)), some (.int x1), some (.int (x2 + 1)), some (.int 0)]) dX12_findFall_84 rfl (by decide) rfl rfl ?_
      refine q_goto (tgt := 4) dX12_findFall_87 (by decide) ?_
      exact q_wk (by simp [vt_le]) h
    · have h := h.2 c3
      refine q_aload_n dX12_findFall_23 rfl ?_
      refine q_iload_n dX12_findFall_24 rfl ?_
      obtain ⟨hp4, h⟩ := h
      refine q_cVb (C := 0 < (σ 169 (30 + 8 * x2 + 7).toNatClampNeg)) (d' := 1) [.int x2] [] dX12_findFall_25 ok_X12_hasLease mk_RX12_236 rc_168 rfl (Nat.le_of_ble_eq_true rfl) (by first | decide | omega) (fun Φ h9 => c_X12_hasLease (σ := σ) hp4 Φ h9) (fun c5 => ?_) (fun c5 => ?_)
      · have h := h.1 c5
        refine q_if_eq (tgt := 56) dX12_findFall_28 (by decide) (fun c => absurd c (by decide)) (fun _ => ?_)
        refine q_aload_n dX12_findFall_31 rfl ?_
        refine q_iload_n dX12_findFall_32 rfl ?_
        refine q_iconst (v := 2) dX12_findFall_33 (by decide) ?_
        refine q_aload_n dX12_findFall_34 rfl ?_
        refine q_getR dX12_findFall_35 fF_RX12_9 fl_168_0 ?_
        refine q_iconst (v := 0) dX12_findFall_38 (by decide) ?_
        refine q_ialdX (v := (σ 169 0)) dX12_findFall_39 ar_169 (vt_inl rfl) rfl ?_
        refine q_aload_n dX12_findFall_40 rfl ?_
        refine q_getR dX12_findFall_41 fF_RX12_9 fl_168_0 ?_
        refine q_iconst (v := 0) dX12_findFall_44 (by decide) ?_
        refine q_ialdX (v := (σ 169 0)) dX12_findFall_45 ar_169 (vt_inl rfl) rfl ?_
        refine q_cV (d' := 4) [.int x2, .int 2, .int (σ 169 0), .int (σ 169 0)] [] dX12_findFall_46 ok_X12_worked mk_RX12_239 rc_168 rfl (Nat.le_of_ble_eq_true rfl) (by first | decide | omega) h (fun v σ6 h => ?_)
        obtain ⟨r7, rfl, h⟩ := h
        refine q_if_eq (tgt := 56) dX12_findFall_49 (by decide) (fun c8 => ?_) (fun c8 => ?_)
        · have h := h.1 c8
          refine q_iconst (v := 0) dX12_findFall_56 (by decide) ?_
          refine q_istore_n (L' := [some (.ref (g.2.1 168)), some (.int x1), some (.int x2), some (.int 0)]) dX12_findFall_57 (by decide) rfl rfl ?_
          refine q_iload_n dX12_findFall_58 rfl ?_
          refine q_if_eq (tgt := 84) dX12_findFall_59 (by decide) (fun _ => ?_) (fun c => absurd (by decide) c)
          refine q_iinc (L' := [some (.ref (g.2.1 168)), some (.int x1), some (.int (x2 + 1)), some (.int 0)]) dX12_findFall_84 rfl (by decide) rfl rfl ?_
          refine q_goto (tgt := 4) dX12_findFall_87 (by decide) ?_
          exact q_wk (by simp [vt_le]) h
        · have h := h.2 c8
          refine q_iconst (v := 1) dX12_findFall_52 (by decide) ?_
          refine q_goto (tgt := 57) dX12_findFall_53 (by decide) ?_
          refine q_istore_n (L' := [some (.ref (g.2.1 168)), some (.int x1), some (.int x2), some (.int 1)]) dX12_findFall_57 (by decide) rfl rfl ?_
          refine q_iload_n dX12_findFall_58 rfl ?_
          refine q_if_eq (tgt := 84) dX12_findFall_59 (by decide) (fun c => absurd c (by decide)) (fun _ => ?_)
          refine q_aload_n dX12_findFall_62 rfl ?_
          refine q_getR dX12_findFall_63 fF_RX12_37 fl_168_20 ?_
          refine q_iload_n dX12_findFall_66 rfl ?_
          refine q_iload_n dX12_findFall_67 rfl ?_
          obtain ⟨hi9, h⟩ := h
          refine q_iastX (F := upd (σ6 178) x1.toNatClampNeg x2) dX12_findFall_68 ar_178 hi9 rfl ?_
          refine q_iinc (L' := [some (.ref (g.2.1 168)), some (.int (x1 + 1)), some (.int x2), some (.int 1)]) dX12_findFall_69 rfl (by decide) rfl rfl ?_
          refine q_aload_n dX12_findFall_72 rfl ?_
          refine q_getR dX12_findFall_73 fF_RX12_28 fl_168_9 ?_
          refine q_iload_n dX12_findFall_76 rfl ?_
          refine q_iconst (v := (-1)) dX12_findFall_77 (by decide) ?_
          refine q_iastX (F := upd (σ6 175) x2.toNatClampNeg (-1)) dX12_findFall_78 ar_175 hi2 rfl ?_
          refine q_iconst (v := 0) dX12_findFall_79 (by decide) ?_
          refine q_istore_n (L' := [some (.ref (g.2.1 168)), some (.int (x1 + 1)), some (.int 0), some (.int 1)]) dX12_findFall_80 (by decide) rfl rfl ?_
          refine q_goto (tgt := 87) dX12_findFall_81 (by decide) ?_
          refine q_goto (tgt := 4) dX12_findFall_87 (by decide) ?_
          exact q_wk (by simp [vt_le]) h
      · have h := h.2 c5
        refine q_if_eq (tgt := 56) dX12_findFall_28 (by decide) (fun _ => ?_) (fun c => absurd (by decide) c)
        refine q_iconst (v := 0) dX12_findFall_56 (by decide) ?_
        refine q_istore_n (L' := [some (.ref (g.2.1 168)), some (.int x1), some (.int x2), some (.int 0)]) dX12_findFall_57 (by decide) rfl rfl ?_
        refine q_iload_n dX12_findFall_58 rfl ?_
        refine q_if_eq (tgt := 84) dX12_findFall_59 (by decide) (fun _ => ?_) (fun c => absurd (by decide) c)
        refine q_iinc (L' := [some (.ref (g.2.1 168)), some (.int x1), some (.int (x2 + 1)), some (.int 0)]) dX12_findFall_84 rfl (by decide) rfl rfl ?_
        refine q_goto (tgt := 4) dX12_findFall_87 (by decide) ?_
        exact q_wk (by simp [vt_le]) h

theorem s_X12_fall_0 (g : vt_GT) (σ : vt_Sg) (P : Option Value → vt_Sg → Prop) 
  (h : vt_Mv g 1 D_X12_findStands [.ref (g.2.1 168), .int (σ 169 0)] σ (fun σ1 => vt_Mi g 5 D_X12_findFall [.ref (g.2.1 168)] σ1 (fun r3 σ2 => (((σ2 169 3) + r3) ≤ 200 → TT g (vt_R 6) 0 0 D_X12_fall none 34 [some (.ref (g.2.1 168)), some (.int r3), some (.int 0)] [] σ2 P) ∧ (¬ ((σ2 169 3) + r3) ≤ 200 → P (some (.int (-1000000003))) σ2)))) :
  TT g (vt_R 6) 0 0 D_X12_fall none 0 [some (.ref (g.2.1 168)), none, none] [] σ P := by
  refine q_aload_n dX12_fall_0 rfl ?_
  refine q_aload_n dX12_fall_1 rfl ?_
  refine q_getR dX12_fall_2 fF_RX12_9 fl_168_0 ?_
  refine q_iconst (v := 0) dX12_fall_5 (by decide) ?_
  refine q_ialdX (v := (σ 169 0)) dX12_fall_6 ar_169 (vt_inl rfl) rfl ?_
  refine q_cV (d' := 1) [.int (σ 169 0)] [] dX12_fall_7 ok_X12_findStands mk_RX12_72 rc_168 rfl (Nat.le_of_ble_eq_true rfl) (by first | decide | omega) h (fun v σ1 h => ?_)
  obtain ⟨rfl, h⟩ := h
  refine q_aload_n dX12_fall_10 rfl ?_
  refine q_cV (d' := 5) [] [] dX12_fall_11 ok_X12_findFall mk_RX12_249 rc_168 rfl (Nat.le_of_ble_eq_true rfl) (by first | decide | omega) h (fun v σ2 h => ?_)
  obtain ⟨r3, rfl, h⟩ := h
  refine q_istore_n (L' := [some (.ref (g.2.1 168)), some (.int r3), none]) dX12_fall_14 (by decide) rfl rfl ?_
  refine q_aload_n dX12_fall_15 rfl ?_
  refine q_getR dX12_fall_16 fF_RX12_9 fl_168_0 ?_
  refine q_iconst (v := 3) dX12_fall_19 (by decide) ?_
  refine q_ialdX (v := (σ2 169 3)) dX12_fall_20 ar_169 (vt_inl rfl) rfl ?_
  refine q_iload_n dX12_fall_21 rfl ?_
  refine q_iadd dX12_fall_22 ?_
  refine q_sipush (v := 200) dX12_fall_23 (by decide) ?_
  refine q_icmp_le (tgt := 32) dX12_fall_26 (by decide) (fun c4 => ?_) (fun c4 => ?_)
  · have h := h.1 c4
    refine q_iconst (v := 0) dX12_fall_32 (by decide) ?_
    refine q_istore_n (L' := [some (.ref (g.2.1 168)), some (.int r3), some (.int 0)]) dX12_fall_33 (by decide) rfl rfl ?_
    exact h
  · have h := h.2 c4
    refine q_ldc dX12_fall_29 ct_RX12_59 ?_
    exact q_iret .int rfl rfl dX12_fall_31 h

theorem s_X12_fall_34 (g : vt_GT) (σ : vt_Sg) (P : Option Value → vt_Sg → Prop) (x1 : Int32) (x2 : Int32)
  (h : (x1 ≤ x2 → P (some (.int x1)) (su σ 169 (upd (σ 169) 7 x1))) ∧ (¬ x1 ≤ x2 → vp_in x2 12 ∧ (vt_Mv g 0 D_X12_moves [.ref (g.2.1 168), .int (σ 178 x2.toNatClampNeg), .int (-1)] σ (fun σ3 => vp_in (126 + x2) 2220 ∧ (TT g (vt_R 6) 0 0 D_X12_fall none 34 [some (.ref (g.2.1 168)), some (.int x1), some (.int (x2 + 1))] [] (su σ3 169 (upd (σ3 169) ((126 + x2).toNatClampNeg) (σ3 178 x2.toNatClampNeg))) P))))) :
  TT g (vt_R 6) 0 0 D_X12_fall none 34 [some (.ref (g.2.1 168)), some (.int x1), some (.int x2)] [] σ P := by
  refine q_iload_n dX12_fall_34 rfl ?_
  refine q_iload_n dX12_fall_35 rfl ?_
  refine q_icmp_ge (tgt := 71) dX12_fall_36 (by decide) (fun c1 => ?_) (fun c1 => ?_)
  · have h := h.1 c1
    refine q_aload_n dX12_fall_71 rfl ?_
    refine q_getR dX12_fall_72 fF_RX12_9 fl_168_0 ?_
    refine q_bipush (v := 7) dX12_fall_75 (by decide) ?_
    refine q_iload_n dX12_fall_77 rfl ?_
    refine q_iastX (F := upd (σ 169) 7 x1) dX12_fall_78 ar_169 (vt_inl rfl) rfl ?_
    refine q_iload_n dX12_fall_79 rfl ?_
    exact q_iret .int rfl rfl dX12_fall_80 h
  · have h := h.2 c1
    refine q_aload_n dX12_fall_39 rfl ?_
    refine q_aload_n dX12_fall_40 rfl ?_
    refine q_getR dX12_fall_41 fF_RX12_37 fl_168_20 ?_
    refine q_iload_n dX12_fall_44 rfl ?_
    obtain ⟨hi2, h⟩ := h
    refine q_ialdX (v := (σ 178 x2.toNatClampNeg)) dX12_fall_45 ar_178 hi2 rfl ?_
    refine q_iconst (v := (-1)) dX12_fall_46 (by decide) ?_
    refine q_cV (d' := 0) [.int (σ 178 x2.toNatClampNeg), .int (-1)] [] dX12_fall_47 ok_X12_moves mk_RX12_81 rc_168 rfl (Nat.le_of_ble_eq_true rfl) (by first | decide | omega) h (fun v σ3 h => ?_)
    obtain ⟨rfl, h⟩ := h
    refine q_aload_n dX12_fall_50 rfl ?_
    refine q_getR dX12_fall_51 fF_RX12_9 fl_168_0 ?_
    refine q_bipush (v := 126) dX12_fall_54 (by decide) ?_
    refine q_iload_n dX12_fall_56 rfl ?_
    refine q_iadd dX12_fall_57 ?_
    refine q_aload_n dX12_fall_58 rfl ?_
    refine q_getR dX12_fall_59 fF_RX12_37 fl_168_20 ?_
    refine q_iload_n dX12_fall_62 rfl ?_
    refine q_ialdX (v := (σ3 178 x2.toNatClampNeg)) dX12_fall_63 ar_178 hi2 rfl ?_
    obtain ⟨hi4, h⟩ := h
    refine q_iastX (F := upd (σ3 169) ((126 + x2).toNatClampNeg) (σ3 178 x2.toNatClampNeg)) dX12_fall_64 ar_169 hi4 rfl ?_
    refine q_iinc (L' := [some (.ref (g.2.1 168)), some (.int x1), some (.int (x2 + 1))]) dX12_fall_65 rfl (by decide) rfl rfl ?_
    refine q_goto (tgt := 34) dX12_fall_68 (by decide) ?_
    exact h

theorem s_X12_fallen_0 (g : vt_GT) (σ : vt_Sg) (P : Option Value → vt_Sg → Prop) (p1 : Int32)
  (h : (0 ≤ p1 → ((σ 169 7) ≤ p1 → P (some (.int (-1000000005))) σ) ∧ (¬ (σ 169 7) ≤ p1 → vp_in (126 + p1) 2220 ∧ (P (some (.int (σ 169 (126 + p1).toNatClampNeg))) σ))) ∧ (¬ 0 ≤ p1 → P (some (.int (-1000000001))) σ)) :
  TT g (vt_R 0) 0 0 D_X12_fallen none 0 [some (.ref (g.2.1 168)), some (.int p1)] [] σ P := by
  refine q_iload_n dX12_fallen_0 rfl ?_
  refine q_if_ge (tgt := 9) dX12_fallen_1 (by decide) (fun c1 => ?_) (fun c1 => ?_)
  · have h := h.1 c1
    refine q_iload_n dX12_fallen_9 rfl ?_
    refine q_aload_n dX12_fallen_10 rfl ?_
    refine q_getR dX12_fallen_11 fF_RX12_9 fl_168_0 ?_
    refine q_bipush (v := 7) dX12_fallen_14 (by decide) ?_
    refine q_ialdX (v := (σ 169 7)) dX12_fallen_16 ar_169 (vt_inl rfl) rfl ?_
    refine q_icmp_ge (tgt := 32) dX12_fallen_17 (by decide) (fun c2 => ?_) (fun c2 => ?_)
    · have h := h.1 c2
      refine q_ldc dX12_fallen_32 ct_RX12_71 ?_
      exact q_iret .int rfl rfl dX12_fallen_34 h
    · have h := h.2 c2
      refine q_aload_n dX12_fallen_20 rfl ?_
      refine q_getR dX12_fallen_21 fF_RX12_9 fl_168_0 ?_
      refine q_bipush (v := 126) dX12_fallen_24 (by decide) ?_
      refine q_iload_n dX12_fallen_26 rfl ?_
      refine q_iadd dX12_fallen_27 ?_
      obtain ⟨hi3, h⟩ := h
      refine q_ialdX (v := (σ 169 (126 + p1).toNatClampNeg)) dX12_fallen_28 ar_169 hi3 rfl ?_
      refine q_goto (tgt := 34) dX12_fallen_29 (by decide) ?_
      exact q_iret .int rfl rfl dX12_fallen_34 h
  · have h := h.2 c1
    refine q_ldc dX12_fallen_4 ct_RX12_57 ?_
    refine q_goto (tgt := 34) dX12_fallen_6 (by decide) ?_
    exact q_iret .int rfl rfl dX12_fallen_34 h

theorem s_X12_without_0 (g : vt_GT) (σ : vt_Sg) (P : Option Value → vt_Sg → Prop) (p1 : Int32)
  (h : ((¬ p1 < 0 ∧ ¬ (σ 169 2) - 1 < p1) → vt_Mv g 1 D_X12_findStands [.ref (g.2.1 168), .int (σ 169 0)] σ (fun σ2 => vp_in p1 12 ∧ ((0 ≤ (σ2 175 p1.toNatClampNeg) → vt_Mi g 5 D_X12_findFall [.ref (g.2.1 168)] (su σ2 175 (upd (σ2 175) p1.toNatClampNeg (-1))) (fun r6 σ5 => P (some (.int r6)) σ5)) ∧ (¬ 0 ≤ (σ2 175 p1.toNatClampNeg) → P (some (.int (-1000000002))) σ2)))) ∧ (¬ (¬ p1 < 0 ∧ ¬ (σ 169 2) - 1 < p1) → P (some (.int (-1000000001))) σ)) :
  TT g (vt_R 6) 0 0 D_X12_without none 0 [some (.ref (g.2.1 168)), some (.int p1)] [] σ P := by
  refine q_aload_n dX12_without_0 rfl ?_
  refine q_iload_n dX12_without_1 rfl ?_
  refine q_cVb (C := ¬ p1 < 0 ∧ ¬ (σ 169 2) - 1 < p1) (d' := 1) [.int p1] [] dX12_without_2 ok_X12_isShop mk_RX12_65 rc_168 rfl (Nat.le_of_ble_eq_true rfl) (by first | decide | omega) (fun Φ h9 => c_X12_isShop (σ := σ) Φ h9) (fun c1 => ?_) (fun c1 => ?_)
  · have h := h.1 c1
    refine q_if_ne (tgt := 11) dX12_without_5 (by decide) (fun _ => ?_) (fun c => absurd c (by decide))
    refine q_aload_n dX12_without_11 rfl ?_
    refine q_aload_n dX12_without_12 rfl ?_
    refine q_getR dX12_without_13 fF_RX12_9 fl_168_0 ?_
    refine q_iconst (v := 0) dX12_without_16 (by decide) ?_
    refine q_ialdX (v := (σ 169 0)) dX12_without_17 ar_169 (vt_inl rfl) rfl ?_
    refine q_cV (d' := 1) [.int (σ 169 0)] [] dX12_without_18 ok_X12_findStands mk_RX12_72 rc_168 rfl (Nat.le_of_ble_eq_true rfl) (by first | decide | omega) h (fun v σ2 h => ?_)
    obtain ⟨rfl, h⟩ := h
    refine q_aload_n dX12_without_21 rfl ?_
    refine q_getR dX12_without_22 fF_RX12_28 fl_168_9 ?_
    refine q_iload_n dX12_without_25 rfl ?_
    obtain ⟨hi3, h⟩ := h
    refine q_ialdX (v := (σ2 175 p1.toNatClampNeg)) dX12_without_26 ar_175 hi3 rfl ?_
    refine q_if_ge (tgt := 33) dX12_without_27 (by decide) (fun c4 => ?_) (fun c4 => ?_)
    · have h := h.1 c4
      refine q_aload_n dX12_without_33 rfl ?_
      refine q_getR dX12_without_34 fF_RX12_28 fl_168_9 ?_
      refine q_iload_n dX12_without_37 rfl ?_
      refine q_iconst (v := (-1)) dX12_without_38 (by decide) ?_
      refine q_iastX (F := upd (σ2 175) p1.toNatClampNeg (-1)) dX12_without_39 ar_175 hi3 rfl ?_
      refine q_aload_n dX12_without_40 rfl ?_
      refine q_cV (d' := 5) [] [] dX12_without_41 ok_X12_findFall mk_RX12_249 rc_168 rfl (Nat.le_of_ble_eq_true rfl) (by first | decide | omega) h (fun v σ5 h => ?_)
      obtain ⟨r6, rfl, h⟩ := h
      exact q_iret .int rfl rfl dX12_without_44 h
    · have h := h.2 c4
      refine q_ldc dX12_without_30 ct_RX12_80 ?_
      exact q_iret .int rfl rfl dX12_without_32 h
  · have h := h.2 c1
    refine q_if_ne (tgt := 11) dX12_without_5 (by decide) (fun c => absurd rfl c) (fun _ => ?_)
    refine q_ldc dX12_without_8 ct_RX12_57 ?_
    exact q_iret .int rfl rfl dX12_without_10 h

theorem s_X12_breaks_0 (g : vt_GT) (σ : vt_Sg) (P : Option Value → vt_Sg → Prop) (p1 : Int32) (p2 : Int32) (p3 : Int32) (p4 : Int32)
  (h : vp_in (30 + 8 * p1 + (5 : Int32)) 2220 ∧ (vp_in (30 + 8 * p3 + (5 : Int32)) 2220 ∧ (vp_in (30 + 8 * p1 + (1 : Int32)) 2220 ∧ (vp_in (30 + 8 * p3 + (1 : Int32)) 2220 ∧ ((¬ (σ 169 (30 + 8 * p1 + (1 : Int32)).toNatClampNeg) = (σ 169 (30 + 8 * p3 + (1 : Int32)).toNatClampNeg) → P (some (.int 0)) σ) ∧ ((σ 169 (30 + 8 * p1 + (1 : Int32)).toNatClampNeg) = (σ 169 (30 + 8 * p3 + (1 : Int32)).toNatClampNeg) → ((if (σ 169 (30 + 8 * p1 + (5 : Int32)).toNatClampNeg) < (σ 169 (30 + 8 * p3 + (5 : Int32)).toNatClampNeg) then (σ 169 (30 + 8 * p3 + (5 : Int32)).toNatClampNeg) else (σ 169 (30 + 8 * p1 + (5 : Int32)).toNatClampNeg)) < (if 0 ≤ (p2 - p4) then (p2 - p4) else 0 - (p2 - p4)) → P (some (.int 0)) σ) ∧ (¬ (if (σ 169 (30 + 8 * p1 + (5 : Int32)).toNatClampNeg) < (σ 169 (30 + 8 * p3 + (5 : Int32)).toNatClampNeg) then (σ 169 (30 + 8 * p3 + (5 : Int32)).toNatClampNeg) else (σ 169 (30 + 8 * p1 + (5 : Int32)).toNatClampNeg)) < (if 0 ≤ (p2 - p4) then (p2 - p4) else 0 - (p2 - p4)) → P (some (.int 1)) σ))))))) :
  TT g (vt_R 1) 0 0 D_X12_breaks none 0 [some (.ref (g.2.1 168)), some (.int p1), some (.int p2), some (.int p3), some (.int p4), none] [] σ P := by
  refine q_aload_n dX12_breaks_0 rfl ?_
  refine q_getR dX12_breaks_1 fF_RX12_9 fl_168_0 ?_
  refine q_iload_n dX12_breaks_4 rfl ?_
  refine q_iconst (v := 5) dX12_breaks_5 (by decide) ?_
  refine q_cSi (e := (30 + 8 * p1 + (5 : Int32))) (d' := 0) [.int p1, .int 5] [.ref (g.2.1 169)] dX12_breaks_6 ok_X12_of mk_RX12_61 rfl (Nat.le_of_ble_eq_true rfl) (by first | decide | omega) (fun Φ h9 => c_X12_of (σ := σ) Φ h9) ?_
  obtain ⟨hi1, h⟩ := h
  refine q_ialdX (v := (σ 169 (30 + 8 * p1 + (5 : Int32)).toNatClampNeg)) dX12_breaks_9 ar_169 hi1 rfl ?_
  refine q_aload_n dX12_breaks_10 rfl ?_
  refine q_getR dX12_breaks_11 fF_RX12_9 fl_168_0 ?_
  refine q_iload_n dX12_breaks_14 rfl ?_
  refine q_iconst (v := 5) dX12_breaks_15 (by decide) ?_
  refine q_cSi (e := (30 + 8 * p3 + (5 : Int32))) (d' := 0) [.int p3, .int 5] [.ref (g.2.1 169), .int (σ 169 (30 + 8 * p1 + (5 : Int32)).toNatClampNeg)] dX12_breaks_16 ok_X12_of mk_RX12_61 rfl (Nat.le_of_ble_eq_true rfl) (by first | decide | omega) (fun Φ h9 => c_X12_of (σ := σ) Φ h9) ?_
  obtain ⟨hi2, h⟩ := h
  refine q_ialdX (v := (σ 169 (30 + 8 * p3 + (5 : Int32)).toNatClampNeg)) dX12_breaks_19 ar_169 hi2 rfl ?_
  refine q_max dX12_breaks_20 mk_RX12_98 sta_max ini_math cod_max (Nat.le_of_ble_eq_true rfl) (by first | decide | omega) ?_
  refine q_istore (L' := [some (.ref (g.2.1 168)), some (.int p1), some (.int p2), some (.int p3), some (.int p4), some (.int (if (σ 169 (30 + 8 * p1 + (5 : Int32)).toNatClampNeg) < (σ 169 (30 + 8 * p3 + (5 : Int32)).toNatClampNeg) then (σ 169 (30 + 8 * p3 + (5 : Int32)).toNatClampNeg) else (σ 169 (30 + 8 * p1 + (5 : Int32)).toNatClampNeg)))]) dX12_breaks_23 (by decide) rfl rfl ?_
  refine q_aload_n dX12_breaks_25 rfl ?_
  refine q_getR dX12_breaks_26 fF_RX12_9 fl_168_0 ?_
  refine q_iload_n dX12_breaks_29 rfl ?_
  refine q_iconst (v := 1) dX12_breaks_30 (by decide) ?_
  refine q_cSi (e := (30 + 8 * p1 + (1 : Int32))) (d' := 0) [.int p1, .int 1] [.ref (g.2.1 169)] dX12_breaks_31 ok_X12_of mk_RX12_61 rfl (Nat.le_of_ble_eq_true rfl) (by first | decide | omega) (fun Φ h9 => c_X12_of (σ := σ) Φ h9) ?_
  obtain ⟨hi3, h⟩ := h
  refine q_ialdX (v := (σ 169 (30 + 8 * p1 + (1 : Int32)).toNatClampNeg)) dX12_breaks_34 ar_169 hi3 rfl ?_
  refine q_aload_n dX12_breaks_35 rfl ?_
  refine q_getR dX12_breaks_36 fF_RX12_9 fl_168_0 ?_
  refine q_iload_n dX12_breaks_39 rfl ?_
  refine q_iconst (v := 1) dX12_breaks_40 (by decide) ?_
  refine q_cSi (e := (30 + 8 * p3 + (1 : Int32))) (d' := 0) [.int p3, .int 1] [.ref (g.2.1 169), .int (σ 169 (30 + 8 * p1 + (1 : Int32)).toNatClampNeg)] dX12_breaks_41 ok_X12_of mk_RX12_61 rfl (Nat.le_of_ble_eq_true rfl) (by first | decide | omega) (fun Φ h9 => c_X12_of (σ := σ) Φ h9) ?_
  obtain ⟨hi4, h⟩ := h
  refine q_ialdX (v := (σ 169 (30 + 8 * p3 + (1 : Int32)).toNatClampNeg)) dX12_breaks_44 ar_169 hi4 rfl ?_
  refine q_icmp_ne (tgt := 64) dX12_breaks_45 (by decide) (fun c5 => ?_) (fun c5 => ?_)
  · have h := h.1 c5
    refine q_iconst (v := 0) dX12_breaks_64 (by decide) ?_
    exact q_iret .boolean rfl rfl dX12_breaks_65 h
  · have h := h.2 c5
    refine q_iload_n dX12_breaks_48 rfl ?_
    refine q_iload dX12_breaks_49 rfl ?_
    refine q_isub dX12_breaks_51 ?_
    refine q_abs dX12_breaks_52 mk_RX12_107 sta_abs ini_math cod_abs (Nat.le_of_ble_eq_true rfl) (by first | decide | omega) ?_
    refine q_iload dX12_breaks_55 rfl ?_
    refine q_icmp_gt (tgt := 64) dX12_breaks_57 (by decide) (fun c6 => ?_) (fun c6 => ?_)
    · have h := h.1 c6
      refine q_iconst (v := 0) dX12_breaks_64 (by decide) ?_
      exact q_iret .boolean rfl rfl dX12_breaks_65 h
    · have h := h.2 c6
      refine q_iconst (v := 1) dX12_breaks_60 (by decide) ?_
      refine q_goto (tgt := 65) dX12_breaks_61 (by decide) ?_
      exact q_iret .boolean rfl rfl dX12_breaks_65 h

theorem s_X12_broken_0 (g : vt_GT) (σ : vt_Sg) (P : Option Value → vt_Sg → Prop) 
  (h : vt_Mv g 1 D_X12_findStands [.ref (g.2.1 168), .int (σ 169 0)] σ (fun σ1 => TT g (vt_R 2) 0 0 D_X12_broken none 14 [some (.ref (g.2.1 168)), some (.int 0), some (.int 0), none] [] σ1 P)) :
  TT g (vt_R 2) 0 0 D_X12_broken none 0 [some (.ref (g.2.1 168)), none, none, none] [] σ P := by
  refine q_aload_n dX12_broken_0 rfl ?_
  refine q_aload_n dX12_broken_1 rfl ?_
  refine q_getR dX12_broken_2 fF_RX12_9 fl_168_0 ?_
  refine q_iconst (v := 0) dX12_broken_5 (by decide) ?_
  refine q_ialdX (v := (σ 169 0)) dX12_broken_6 ar_169 (vt_inl rfl) rfl ?_
  refine q_cV (d' := 1) [.int (σ 169 0)] [] dX12_broken_7 ok_X12_findStands mk_RX12_72 rc_168 rfl (Nat.le_of_ble_eq_true rfl) (by first | decide | omega) h (fun v σ1 h => ?_)
  obtain ⟨rfl, h⟩ := h
  refine q_iconst (v := 0) dX12_broken_10 (by decide) ?_
  refine q_istore_n (L' := [some (.ref (g.2.1 168)), some (.int 0), none, none]) dX12_broken_11 (by decide) rfl rfl ?_
  refine q_iconst (v := 0) dX12_broken_12 (by decide) ?_
  refine q_istore_n (L' := [some (.ref (g.2.1 168)), some (.int 0), some (.int 0), none]) dX12_broken_13 (by decide) rfl rfl ?_
  exact h

theorem s_X12_broken_14 (g : vt_GT) (σ : vt_Sg) (P : Option Value → vt_Sg → Prop) (x1 : Int32) (x2 : Int32)
  (h : (12 ≤ x2 → P (some (.int x1)) σ) ∧ (¬ 12 ≤ x2 → TT g (vt_R 2) 0 0 D_X12_broken none 24 [some (.ref (g.2.1 168)), some (.int x1), some (.int x2), some (.int (x2 + 1))] [] σ P)) :
  TT g (vt_R 2) 0 0 D_X12_broken none 14 [some (.ref (g.2.1 168)), some (.int x1), some (.int x2), none] [] σ P := by
  refine q_iload_n dX12_broken_14 rfl ?_
  refine q_bipush (v := 12) dX12_broken_15 (by decide) ?_
  refine q_icmp_ge (tgt := 89) dX12_broken_17 (by decide) (fun c1 => ?_) (fun c1 => ?_)
  · have h := h.1 c1
    refine q_iload_n dX12_broken_89 rfl ?_
    exact q_iret .int rfl rfl dX12_broken_90 h
  · have h := h.2 c1
    refine q_iload_n dX12_broken_20 rfl ?_
    refine q_iconst (v := 1) dX12_broken_21 (by decide) ?_
    refine q_iadd dX12_broken_22 ?_
    refine q_istore_n (L' := [some (.ref (g.2.1 168)), some (.int x1), some (.int x2), some (.int (x2 + 1))]) dX12_broken_23 (by decide) rfl rfl ?_
    exact h

theorem s_X12_broken_24 (g : vt_GT) (σ : vt_Sg) (P : Option Value → vt_Sg → Prop) (x1 : Int32) (x2 : Int32) (x3 : Int32)
  (h : (12 ≤ x3 → TT g (vt_R 2) 0 0 D_X12_broken none 14 [some (.ref (g.2.1 168)), some (.int x1), some (.int (x2 + 1)), none] [] σ P) ∧ (¬ 12 ≤ x3 → vp_in x2 12 ∧ (((σ 175 x2.toNatClampNeg) < 0 → TT g (vt_R 2) 0 0 D_X12_broken none 24 [some (.ref (g.2.1 168)), some (.int (x1 + 0)), some (.int x2), some (.int (x3 + 1))] [] σ P) ∧ (¬ (σ 175 x2.toNatClampNeg) < 0 → vp_in x3 12 ∧ (((σ 175 x3.toNatClampNeg) < 0 → TT g (vt_R 2) 0 0 D_X12_broken none 24 [some (.ref (g.2.1 168)), some (.int (x1 + 0)), some (.int x2), some (.int (x3 + 1))] [] σ P) ∧ (¬ (σ 175 x3.toNatClampNeg) < 0 → vt_Mi g 1 D_X12_breaks [.ref (g.2.1 168), .int x2, .int (σ 175 x2.toNatClampNeg), .int x3, .int (σ 175 x3.toNatClampNeg)] σ (fun r7 σ6 => (r7 = 0 → TT g (vt_R 2) 0 0 D_X12_broken none 24 [some (.ref (g.2.1 168)), some (.int (x1 + 0)), some (.int x2), some (.int (x3 + 1))] [] σ6 P) ∧ (¬ r7 = 0 → TT g (vt_R 2) 0 0 D_X12_broken none 24 [some (.ref (g.2.1 168)), some (.int (x1 + 1)), some (.int x2), some (.int (x3 + 1))] [] σ6 P)))))))) :
  TT g (vt_R 2) 0 0 D_X12_broken none 24 [some (.ref (g.2.1 168)), some (.int x1), some (.int x2), some (.int x3)] [] σ P := by
  refine q_iload_n dX12_broken_24 rfl ?_
  refine q_bipush (v := 12) dX12_broken_25 (by decide) ?_
  refine q_icmp_ge (tgt := 83) dX12_broken_27 (by decide) (fun c1 => ?_) (fun c1 => ?_)
  · have h := h.1 c1
    refine q_iinc (L' := [some (.ref (g.2.1 168)), some (.int x1), some (.int (x2 + 1)), some (.int x3)]) dX12_broken_83 rfl (by decide) rfl rfl ?_
    refine q_goto (tgt := 14) dX12_broken_86 (by decide) ?_
    exact q_wk (by simp [vt_le]) h
  · have h := h.2 c1
    refine q_iload_n dX12_broken_30 rfl ?_
    refine q_aload_n dX12_broken_31 rfl ?_
    refine q_getR dX12_broken_32 fF_RX12_28 fl_168_9 ?_
    refine q_iload_n dX12_broken_35 rfl ?_
    obtain ⟨hi2, h⟩ := h
    refine q_ialdX (v := (σ 175 x2.toNatClampNeg)) dX12_broken_36 ar_175 hi2 rfl ?_
    refine q_if_lt (tgt := 74) dX12_broken_37 (by decide) (fun c3 => ?_) (fun c3 => ?_)
    · have h := h.1 c3
      refine q_iconst (v := 0) dX12_broken_74 (by decide) ?_
      refine q_iadd dX12_broken_75 ?_
      refine q_istore_n (L' := [some (.ref (g.2.1 168)), some (.int (x1 + 0)), some (.int x2), some (.int x3)]) dX12_broken_76 (by decide) rfl rfl ?_
      refine q_iinc (L' := [some (.ref (g.2.1 168)), some (.int (x1 + 0)), some (.int x2), some (.int (x3 + 1))]) dX12_broken_77 rfl (by decide) rfl rfl ?_
      refine q_goto (tgt := 24) dX12_broken_80 (by decide) ?_
      exact h
    · have h := h.2 c3
      refine q_aload_n dX12_broken_40 rfl ?_
      refine q_getR dX12_broken_41 fF_RX12_28 fl_168_9 ?_
      refine q_iload_n dX12_broken_44 rfl ?_
      obtain ⟨hi4, h⟩ := h
      refine q_ialdX (v := (σ 175 x3.toNatClampNeg)) dX12_broken_45 ar_175 hi4 rfl ?_
      refine q_if_lt (tgt := 74) dX12_broken_46 (by decide) (fun c5 => ?_) (fun c5 => ?_)
      · have h := h.1 c5
        refine q_iconst (v := 0) dX12_broken_74 (by decide) ?_
        refine q_iadd dX12_broken_75 ?_
        refine q_istore_n (L' := [some (.ref (g.2.1 168)), some (.int (x1 + 0)), some (.int x2), some (.int x3)]) dX12_broken_76 (by decide) rfl rfl ?_
        refine q_iinc (L' := [some (.ref (g.2.1 168)), some (.int (x1 + 0)), some (.int x2), some (.int (x3 + 1))]) dX12_broken_77 rfl (by decide) rfl rfl ?_
        refine q_goto (tgt := 24) dX12_broken_80 (by decide) ?_
        exact h
      · have h := h.2 c5
        refine q_aload_n dX12_broken_49 rfl ?_
        refine q_iload_n dX12_broken_50 rfl ?_
        refine q_aload_n dX12_broken_51 rfl ?_
        refine q_getR dX12_broken_52 fF_RX12_28 fl_168_9 ?_
        refine q_iload_n dX12_broken_55 rfl ?_
        refine q_ialdX (v := (σ 175 x2.toNatClampNeg)) dX12_broken_56 ar_175 hi2 rfl ?_
        refine q_iload_n dX12_broken_57 rfl ?_
        refine q_aload_n dX12_broken_58 rfl ?_
        refine q_getR dX12_broken_59 fF_RX12_28 fl_168_9 ?_
        refine q_iload_n dX12_broken_62 rfl ?_
        refine q_ialdX (v := (σ 175 x3.toNatClampNeg)) dX12_broken_63 ar_175 hi4 rfl ?_
        refine q_cV (d' := 1) [.int x2, .int (σ 175 x2.toNatClampNeg), .int x3, .int (σ 175 x3.toNatClampNeg)] [.int x1] dX12_broken_64 ok_X12_breaks mk_RX12_252 rc_168 rfl (Nat.le_of_ble_eq_true rfl) (by first | decide | omega) h (fun v σ6 h => ?_)
        obtain ⟨r7, rfl, h⟩ := h
        refine q_if_eq (tgt := 74) dX12_broken_67 (by decide) (fun c8 => ?_) (fun c8 => ?_)
        · have h := h.1 c8
          refine q_iconst (v := 0) dX12_broken_74 (by decide) ?_
          refine q_iadd dX12_broken_75 ?_
          refine q_istore_n (L' := [some (.ref (g.2.1 168)), some (.int (x1 + 0)), some (.int x2), some (.int x3)]) dX12_broken_76 (by decide) rfl rfl ?_
          refine q_iinc (L' := [some (.ref (g.2.1 168)), some (.int (x1 + 0)), some (.int x2), some (.int (x3 + 1))]) dX12_broken_77 rfl (by decide) rfl rfl ?_
          refine q_goto (tgt := 24) dX12_broken_80 (by decide) ?_
          exact h
        · have h := h.2 c8
          refine q_iconst (v := 1) dX12_broken_70 (by decide) ?_
          refine q_goto (tgt := 75) dX12_broken_71 (by decide) ?_
          refine q_iadd dX12_broken_75 ?_
          refine q_istore_n (L' := [some (.ref (g.2.1 168)), some (.int (x1 + 1)), some (.int x2), some (.int x3)]) dX12_broken_76 (by decide) rfl rfl ?_
          refine q_iinc (L' := [some (.ref (g.2.1 168)), some (.int (x1 + 1)), some (.int x2), some (.int (x3 + 1))]) dX12_broken_77 rfl (by decide) rfl rfl ?_
          refine q_goto (tgt := 24) dX12_broken_80 (by decide) ?_
          exact h

theorem s_X12_mayPut_0 (g : vt_GT) (σ : vt_Sg) (P : Option Value → vt_Sg → Prop) (p1 : Int32) (p2 : Int32)
  (h : ((σ 169 2) ≤ p1 → TT g (vt_R 2) 0 0 D_X12_mayPut none 28 [some (.ref (g.2.1 168)), some (.int p1), some (.int p2), some (.int 0), some (.int 0)] [] σ P) ∧ (¬ (σ 169 2) ≤ p1 → vp_in p1 12 ∧ ((0 ≤ (σ 175 p1.toNatClampNeg) → TT g (vt_R 2) 0 0 D_X12_mayPut none 28 [some (.ref (g.2.1 168)), some (.int p1), some (.int p2), some (.int 0), some (.int 0)] [] σ P) ∧ (¬ 0 ≤ (σ 175 p1.toNatClampNeg) → TT g (vt_R 2) 0 0 D_X12_mayPut none 28 [some (.ref (g.2.1 168)), some (.int p1), some (.int p2), some (.int 1), some (.int 0)] [] σ P)))) :
  TT g (vt_R 2) 0 0 D_X12_mayPut none 0 [some (.ref (g.2.1 168)), some (.int p1), some (.int p2), none, none] [] σ P := by
  refine q_iload_n dX12_mayPut_0 rfl ?_
  refine q_aload_n dX12_mayPut_1 rfl ?_
  refine q_getR dX12_mayPut_2 fF_RX12_9 fl_168_0 ?_
  refine q_iconst (v := 2) dX12_mayPut_5 (by decide) ?_
  refine q_ialdX (v := (σ 169 2)) dX12_mayPut_6 ar_169 (vt_inl rfl) rfl ?_
  refine q_icmp_ge (tgt := 23) dX12_mayPut_7 (by decide) (fun c1 => ?_) (fun c1 => ?_)
  · have h := h.1 c1
    refine q_iconst (v := 0) dX12_mayPut_23 (by decide) ?_
    refine q_istore_n (L' := [some (.ref (g.2.1 168)), some (.int p1), some (.int p2), some (.int 0), none]) dX12_mayPut_24 (by decide) rfl rfl ?_
    refine q_iconst (v := 0) dX12_mayPut_25 (by decide) ?_
    refine q_istore (L' := [some (.ref (g.2.1 168)), some (.int p1), some (.int p2), some (.int 0), some (.int 0)]) dX12_mayPut_26 (by decide) rfl rfl ?_
    exact h
  · have h := h.2 c1
    refine q_aload_n dX12_mayPut_10 rfl ?_
    refine q_getR dX12_mayPut_11 fF_RX12_28 fl_168_9 ?_
    refine q_iload_n dX12_mayPut_14 rfl ?_
    obtain ⟨hi2, h⟩ := h
    refine q_ialdX (v := (σ 175 p1.toNatClampNeg)) dX12_mayPut_15 ar_175 hi2 rfl ?_
    refine q_if_ge (tgt := 23) dX12_mayPut_16 (by decide) (fun c3 => ?_) (fun c3 => ?_)
    · have h := h.1 c3
      refine q_iconst (v := 0) dX12_mayPut_23 (by decide) ?_
      refine q_istore_n (L' := [some (.ref (g.2.1 168)), some (.int p1), some (.int p2), some (.int 0), none]) dX12_mayPut_24 (by decide) rfl rfl ?_
      refine q_iconst (v := 0) dX12_mayPut_25 (by decide) ?_
      refine q_istore (L' := [some (.ref (g.2.1 168)), some (.int p1), some (.int p2), some (.int 0), some (.int 0)]) dX12_mayPut_26 (by decide) rfl rfl ?_
      exact h
    · have h := h.2 c3
      refine q_iconst (v := 1) dX12_mayPut_19 (by decide) ?_
      refine q_goto (tgt := 24) dX12_mayPut_20 (by decide) ?_
      refine q_istore_n (L' := [some (.ref (g.2.1 168)), some (.int p1), some (.int p2), some (.int 1), none]) dX12_mayPut_24 (by decide) rfl rfl ?_
      refine q_iconst (v := 0) dX12_mayPut_25 (by decide) ?_
      refine q_istore (L' := [some (.ref (g.2.1 168)), some (.int p1), some (.int p2), some (.int 1), some (.int 0)]) dX12_mayPut_26 (by decide) rfl rfl ?_
      exact h

theorem s_X12_mayPut_28 (g : vt_GT) (σ : vt_Sg) (P : Option Value → vt_Sg → Prop) (x1 : Int32) (x2 : Int32) (x3 : Int32) (x4 : Int32)
  (h : (12 ≤ x4 → narrow .boolean (.int x3) = .int x3 ∧ P (some (.int x3)) σ) ∧ (¬ 12 ≤ x4 → (x3 = 0 → narrow .boolean (.int x3) = .int x3 ∧ P (some (.int x3)) σ) ∧ (¬ x3 = 0 → (x4 = x1 → TT g (vt_R 2) 0 0 D_X12_mayPut none 28 [some (.ref (g.2.1 168)), some (.int x1), some (.int x2), some (.int 1), some (.int (x4 + 1))] [] σ P) ∧ (¬ x4 = x1 → vp_in x4 12 ∧ (((σ 175 x4.toNatClampNeg) < 0 → TT g (vt_R 2) 0 0 D_X12_mayPut none 28 [some (.ref (g.2.1 168)), some (.int x1), some (.int x2), some (.int 1), some (.int (x4 + 1))] [] σ P) ∧ (¬ (σ 175 x4.toNatClampNeg) < 0 → vt_Mi g 1 D_X12_breaks [.ref (g.2.1 168), .int x1, .int x2, .int x4, .int (σ 175 x4.toNatClampNeg)] σ (fun r7 σ6 => (¬ r7 = 0 → TT g (vt_R 2) 0 0 D_X12_mayPut none 28 [some (.ref (g.2.1 168)), some (.int x1), some (.int x2), some (.int 0), some (.int (x4 + 1))] [] σ6 P) ∧ (r7 = 0 → TT g (vt_R 2) 0 0 D_X12_mayPut none 28 [some (.ref (g.2.1 168)), some (.int x1), some (.int x2), some (.int 1), some (.int (x4 + 1))] [] σ6 P)))))))) :
  TT g (vt_R 2) 0 0 D_X12_mayPut none 28 [some (.ref (g.2.1 168)), some (.int x1), some (.int x2), some (.int x3), some (.int x4)] [] σ P := by
  refine q_iload dX12_mayPut_28 rfl ?_
  refine q_bipush (v := 12) dX12_mayPut_30 (by decide) ?_
  refine q_icmp_ge (tgt := 85) dX12_mayPut_32 (by decide) (fun c1 => ?_) (fun c1 => ?_)
  · have h := h.1 c1
    refine q_iload_n dX12_mayPut_85 rfl ?_
    exact q_iret .boolean rfl h.1 dX12_mayPut_86 h.2
  · have h := h.2 c1
    refine q_iload_n dX12_mayPut_35 rfl ?_
    refine q_if_eq (tgt := 85) dX12_mayPut_36 (by decide) (fun c2 => ?_) (fun c2 => ?_)
    · have h := h.1 c2
      refine q_iload_n dX12_mayPut_85 rfl ?_
      exact q_iret .boolean rfl h.1 dX12_mayPut_86 h.2
    · have h := h.2 c2
      refine q_iload dX12_mayPut_39 rfl ?_
      refine q_iload_n dX12_mayPut_41 rfl ?_
      refine q_icmp_eq (tgt := 73) dX12_mayPut_42 (by decide) (fun c3 => ?_) (fun c3 => ?_)
      · have h := h.1 c3
        refine q_iconst (v := 1) dX12_mayPut_73 (by decide) ?_
        refine q_goto (tgt := 78) dX12_mayPut_74 (by decide) ?_
        refine q_istore_n (L' := [some (.ref (g.2.1 168)), some (.int x1), some (.int x2), some (.int 1), some (.int x4)]) dX12_mayPut_78 (by decide) rfl rfl ?_
        refine q_iinc (L' := [some (.ref (g.2.1 168)), some (.int x1), some (.int x2), some (.int 1), some (.int (x4 + 1))]) dX12_mayPut_79 rfl (by decide) rfl rfl ?_
        refine q_goto (tgt := 28) dX12_mayPut_82 (by decide) ?_
        exact h
      · have h := h.2 c3
        refine q_aload_n dX12_mayPut_45 rfl ?_
        refine q_getR dX12_mayPut_46 fF_RX12_28 fl_168_9 ?_
        refine q_iload dX12_mayPut_49 rfl ?_
        obtain ⟨hi4, h⟩ := h
        refine q_ialdX (v := (σ 175 x4.toNatClampNeg)) dX12_mayPut_51 ar_175 hi4 rfl ?_
        refine q_if_lt (tgt := 73) dX12_mayPut_52 (by decide) (fun c5 => ?_) (fun c5 => ?_)
        · have h := h.1 c5
          refine q_iconst (v := 1) dX12_mayPut_73 (by decide) ?_
          refine q_goto (tgt := 78) dX12_mayPut_74 (by decide) ?_
          refine q_istore_n (L' := [some (.ref (g.2.1 168)), some (.int x1), some (.int x2), some (.int 1), some (.int x4)]) dX12_mayPut_78 (by decide) rfl rfl ?_
          refine q_iinc (L' := [some (.ref (g.2.1 168)), some (.int x1), some (.int x2), some (.int 1), some (.int (x4 + 1))]) dX12_mayPut_79 rfl (by decide) rfl rfl ?_
          refine q_goto (tgt := 28) dX12_mayPut_82 (by decide) ?_
          exact h
        · have h := h.2 c5
          refine q_aload_n dX12_mayPut_55 rfl ?_
          refine q_iload_n dX12_mayPut_56 rfl ?_
          refine q_iload_n dX12_mayPut_57 rfl ?_
          refine q_iload dX12_mayPut_58 rfl ?_
          refine q_aload_n dX12_mayPut_60 rfl ?_
          refine q_getR dX12_mayPut_61 fF_RX12_28 fl_168_9 ?_
          refine q_iload dX12_mayPut_64 rfl ?_
          refine q_ialdX (v := (σ 175 x4.toNatClampNeg)) dX12_mayPut_66 ar_175 hi4 rfl ?_
          refine q_cV (d' := 1) [.int x1, .int x2, .int x4, .int (σ 175 x4.toNatClampNeg)] [] dX12_mayPut_67 ok_X12_breaks mk_RX12_252 rc_168 rfl (Nat.le_of_ble_eq_true rfl) (by first | decide | omega) h (fun v σ6 h => ?_)
          obtain ⟨r7, rfl, h⟩ := h
          refine q_if_ne (tgt := 77) dX12_mayPut_70 (by decide) (fun c8 => ?_) (fun c8 => ?_)
          · have h := h.1 c8
            refine q_iconst (v := 0) dX12_mayPut_77 (by decide) ?_
            refine q_istore_n (L' := [some (.ref (g.2.1 168)), some (.int x1), some (.int x2), some (.int 0), some (.int x4)]) dX12_mayPut_78 (by decide) rfl rfl ?_
            refine q_iinc (L' := [some (.ref (g.2.1 168)), some (.int x1), some (.int x2), some (.int 0), some (.int (x4 + 1))]) dX12_mayPut_79 rfl (by decide) rfl rfl ?_
            refine q_goto (tgt := 28) dX12_mayPut_82 (by decide) ?_
            exact h
          · have h := h.2 c8
            refine q_iconst (v := 1) dX12_mayPut_73 (by decide) ?_
            refine q_goto (tgt := 78) dX12_mayPut_74 (by decide) ?_
            refine q_istore_n (L' := [some (.ref (g.2.1 168)), some (.int x1), some (.int x2), some (.int 1), some (.int x4)]) dX12_mayPut_78 (by decide) rfl rfl ?_
            refine q_iinc (L' := [some (.ref (g.2.1 168)), some (.int x1), some (.int x2), some (.int 1), some (.int (x4 + 1))]) dX12_mayPut_79 rfl (by decide) rfl rfl ?_
            refine q_goto (tgt := 28) dX12_mayPut_82 (by decide) ?_
            exact h

theorem s_X12_putFrom_0 (g : vt_GT) (σ : vt_Sg) (P : Option Value → vt_Sg → Prop) (d : Nat) (hd : 9 ≤ d) (p1 : Int32) (p2 : Int32) (p3 : Int32)
  (h : (¬ p1 = 12 → vt_Mv g d D_X12_putFrom [.ref (g.2.1 168), .int (p1 + 1), .int p2, .int p3] σ (fun σ2 => TT g (vt_R (d + 1)) 0 0 D_X12_putFrom none 83 [some (.ref (g.2.1 168)), some (.int p1), some (.int p2), some (.int p3), some (.int 0)] [] σ2 P)) ∧ (p1 = 12 → ((σ 168 23) < p2 → TT g (vt_R (d + 1)) 0 0 D_X12_putFrom none 43 [some (.ref (g.2.1 168)), some (.int p1), some (.int p2), some (.int p3), some (.int 0)] [] (su (su σ 168 (upd (σ 168) 23 p2)) 168 (upd (upd (σ 168) 23 p2) 24 p3)) P) ∧ (¬ (σ 168 23) < p2 → (¬ p2 = (σ 168 23) → P none σ) ∧ (p2 = (σ 168 23) → ((σ 168 24) ≤ p3 → P none σ) ∧ (¬ (σ 168 24) ≤ p3 → TT g (vt_R (d + 1)) 0 0 D_X12_putFrom none 43 [some (.ref (g.2.1 168)), some (.int p1), some (.int p2), some (.int p3), some (.int 0)] [] (su (su σ 168 (upd (σ 168) 23 p2)) 168 (upd (upd (σ 168) 23 p2) 24 p3)) P))))) :
  TT g (vt_R (d + 1)) 0 0 D_X12_putFrom none 0 [some (.ref (g.2.1 168)), some (.int p1), some (.int p2), some (.int p3), none] [] σ P := by
  refine q_iload_n dX12_putFrom_0 rfl ?_
  refine q_bipush (v := 12) dX12_putFrom_1 (by decide) ?_
  refine q_icmp_ne (tgt := 71) dX12_putFrom_3 (by decide) (fun c1 => ?_) (fun c1 => ?_)
  · have h := h.1 c1
    refine q_aload_n dX12_putFrom_71 rfl ?_
    refine q_iload_n dX12_putFrom_72 rfl ?_
    refine q_iconst (v := 1) dX12_putFrom_73 (by decide) ?_
    refine q_iadd dX12_putFrom_74 ?_
    refine q_iload_n dX12_putFrom_75 rfl ?_
    refine q_iload_n dX12_putFrom_76 rfl ?_
    refine q_cV (d' := d) [.int (p1 + 1), .int p2, .int p3] [] dX12_putFrom_77 ok_X12_putFrom mk_RX12_262 rc_168 rfl (Nat.le_of_ble_eq_true rfl) (by first | decide | omega) h (fun v σ2 h => ?_)
    obtain ⟨rfl, h⟩ := h
    refine q_iconst (v := 0) dX12_putFrom_80 (by decide) ?_
    refine q_istore (L' := [some (.ref (g.2.1 168)), some (.int p1), some (.int p2), some (.int p3), some (.int 0)]) dX12_putFrom_81 (by decide) rfl rfl ?_
    exact h
  · have h := h.2 c1
    refine q_iload_n dX12_putFrom_6 rfl ?_
    refine q_aload_n dX12_putFrom_7 rfl ?_
    refine q_getX (x := (σ 168 23)) dX12_putFrom_8 fF_RX12_256 fl_168_23 rfl ?_
    refine q_icmp_gt (tgt := 30) dX12_putFrom_11 (by decide) (fun c3 => ?_) (fun c3 => ?_)
    · have h := h.1 c3
      refine q_aload_n dX12_putFrom_30 rfl ?_
      refine q_iload_n dX12_putFrom_31 rfl ?_
      refine q_putX (F := upd (σ 168) 23 p2) dX12_putFrom_32 fF_RX12_256 fP_12_23 fl_168_23 rfl ?_
      refine q_aload_n dX12_putFrom_35 rfl ?_
      refine q_iload_n dX12_putFrom_36 rfl ?_
      refine q_putX (F := upd (upd (σ 168) 23 p2) 24 p3) dX12_putFrom_37 fF_RX12_259 fP_12_24 fl_168_24 rfl ?_
      refine q_iconst (v := 0) dX12_putFrom_40 (by decide) ?_
      refine q_istore (L' := [some (.ref (g.2.1 168)), some (.int p1), some (.int p2), some (.int p3), some (.int 0)]) dX12_putFrom_41 (by decide) rfl rfl ?_
      exact h
    · have h := h.2 c3
      refine q_iload_n dX12_putFrom_14 rfl ?_
      refine q_aload_n dX12_putFrom_15 rfl ?_
      refine q_getX (x := (σ 168 23)) dX12_putFrom_16 fF_RX12_256 fl_168_23 rfl ?_
      refine q_icmp_ne (tgt := 70) dX12_putFrom_19 (by decide) (fun c4 => ?_) (fun c4 => ?_)
      · have h := h.1 c4
        exact q_vret rfl dX12_putFrom_70 h
      · have h := h.2 c4
        refine q_iload_n dX12_putFrom_22 rfl ?_
        refine q_aload_n dX12_putFrom_23 rfl ?_
        refine q_getX (x := (σ 168 24)) dX12_putFrom_24 fF_RX12_259 fl_168_24 rfl ?_
        refine q_icmp_ge (tgt := 70) dX12_putFrom_27 (by decide) (fun c5 => ?_) (fun c5 => ?_)
        · have h := h.1 c5
          exact q_vret rfl dX12_putFrom_70 h
        · have h := h.2 c5
          refine q_aload_n dX12_putFrom_30 rfl ?_
          refine q_iload_n dX12_putFrom_31 rfl ?_
          refine q_putX (F := upd (σ 168) 23 p2) dX12_putFrom_32 fF_RX12_256 fP_12_23 fl_168_23 rfl ?_
          refine q_aload_n dX12_putFrom_35 rfl ?_
          refine q_iload_n dX12_putFrom_36 rfl ?_
          refine q_putX (F := upd (upd (σ 168) 23 p2) 24 p3) dX12_putFrom_37 fF_RX12_259 fP_12_24 fl_168_24 rfl ?_
          refine q_iconst (v := 0) dX12_putFrom_40 (by decide) ?_
          refine q_istore (L' := [some (.ref (g.2.1 168)), some (.int p1), some (.int p2), some (.int p3), some (.int 0)]) dX12_putFrom_41 (by decide) rfl rfl ?_
          exact h

theorem s_X12_putFrom_83 (g : vt_GT) (σ : vt_Sg) (P : Option Value → vt_Sg → Prop) (d : Nat) (hd : 9 ≤ d) (x1 : Int32) (x2 : Int32) (x3 : Int32) (x4 : Int32)
  (h : (12 ≤ x4 → P none σ) ∧ (¬ 12 ≤ x4 → vt_Mi g 1 D_X12_isTaken [.ref (g.2.1 168), .int x1] σ (fun r3 σ2 => (¬ r3 = 0 → P none σ2) ∧ (r3 = 0 → (¬ (σ2 168 26) = 0 → P none σ2) ∧ ((σ2 168 26) = 0 → vt_Mi g 2 D_X12_mayPut [.ref (g.2.1 168), .int x4, .int x1] σ2 (fun r7 σ6 => (¬ r7 = 0 → (¬ (σ6 168 25) = 0 → vp_in x4 12 ∧ (vp_in x1 12 ∧ (vp_in (30 + 8 * x4 + (6 : Int32)) 2220 ∧ (vp_in (10 + x1) 2220 ∧ (vt_Mv g d D_X12_putFrom [.ref (g.2.1 168), .int (x1 + 1), .int (x2 + (((σ6 169 (30 + 8 * x4 + (6 : Int32)).toNatClampNeg) * (σ6 169 (10 + x1).toNatClampNeg)) / 100)), .int (x3 + 1)] (su (su (su σ6 168 (upd (σ6 168) 25 ((σ6 168 25) - 1))) 175 (upd (σ6 175) x4.toNatClampNeg x1)) 179 (upd (σ6 179) x1.toNatClampNeg x4)) (fun σ14 => TT g (vt_R (d + 1)) 0 0 D_X12_putFrom none 83 [some (.ref (g.2.1 168)), some (.int x1), some (.int x2), some (.int x3), some (.int (x4 + 1))] [] (su (su σ14 179 (upd (σ14 179) x1.toNatClampNeg (-1))) 175 (upd (σ14 175) x4.toNatClampNeg (-1))) P)))))) ∧ ((σ6 168 25) = 0 → P none (su σ6 168 (upd (σ6 168) 26 1)))) ∧ (r7 = 0 → TT g (vt_R (d + 1)) 0 0 D_X12_putFrom none 83 [some (.ref (g.2.1 168)), some (.int x1), some (.int x2), some (.int x3), some (.int (x4 + 1))] [] σ6 P))))))) :
  TT g (vt_R (d + 1)) 0 0 D_X12_putFrom none 83 [some (.ref (g.2.1 168)), some (.int x1), some (.int x2), some (.int x3), some (.int x4)] [] σ P := by
  refine q_iload dX12_putFrom_83 rfl ?_
  refine q_bipush (v := 12) dX12_putFrom_85 (by decide) ?_
  refine q_icmp_ge (tgt := 215) dX12_putFrom_87 (by decide) (fun c1 => ?_) (fun c1 => ?_)
  · have h := h.1 c1
    exact q_vret rfl dX12_putFrom_215 h
  · have h := h.2 c1
    refine q_aload_n dX12_putFrom_90 rfl ?_
    refine q_iload_n dX12_putFrom_91 rfl ?_
    refine q_cV (d' := 1) [.int x1] [] dX12_putFrom_92 ok_X12_isTaken mk_RX12_266 rc_168 rfl (Nat.le_of_ble_eq_true rfl) (by first | decide | omega) h (fun v σ2 h => ?_)
    obtain ⟨r3, rfl, h⟩ := h
    refine q_if_ne (tgt := 215) dX12_putFrom_95 (by decide) (fun c4 => ?_) (fun c4 => ?_)
    · have h := h.1 c4
      exact q_vret rfl dX12_putFrom_215 h
    · have h := h.2 c4
      refine q_aload_n dX12_putFrom_98 rfl ?_
      refine q_getX (x := (σ2 168 26)) dX12_putFrom_99 fF_RX12_269 fl_168_26 rfl ?_
      refine q_if_ne (tgt := 215) dX12_putFrom_102 (by decide) (fun c5 => ?_) (fun c5 => ?_)
      · have h := h.1 c5
        exact q_vret rfl dX12_putFrom_215 h
      · have h := h.2 c5
        refine q_aload_n dX12_putFrom_105 rfl ?_
        refine q_iload dX12_putFrom_106 rfl ?_
        refine q_iload_n dX12_putFrom_108 rfl ?_
        refine q_cV (d' := 2) [.int x4, .int x1] [] dX12_putFrom_109 ok_X12_mayPut mk_RX12_272 rc_168 rfl (Nat.le_of_ble_eq_true rfl) (by first | decide | omega) h (fun v σ6 h => ?_)
        obtain ⟨r7, rfl, h⟩ := h
        refine q_if_ne (tgt := 118) dX12_putFrom_112 (by decide) (fun c8 => ?_) (fun c8 => ?_)
        · have h := h.1 c8
          refine q_aload_n dX12_putFrom_118 rfl ?_
          refine q_getX (x := (σ6 168 25)) dX12_putFrom_119 fF_RX12_276 fl_168_25 rfl ?_
          refine q_if_ne (tgt := 131) dX12_putFrom_122 (by decide) (fun c9 => ?_) (fun c9 => ?_)
          · have h := h.1 c9
            refine q_aload_n dX12_putFrom_131 rfl ?_
            refine q_dup dX12_putFrom_132 rfl ?_
            refine q_getX (x := (σ6 168 25)) dX12_putFrom_133 fF_RX12_276 fl_168_25 rfl ?_
            refine q_iconst (v := 1) dX12_putFrom_136 (by decide) ?_
            refine q_isub dX12_putFrom_137 ?_
            refine q_putX (F := upd (σ6 168) 25 ((σ6 168 25) - 1)) dX12_putFrom_138 fF_RX12_276 fP_12_25 fl_168_25 rfl ?_
            refine q_aload_n dX12_putFrom_141 rfl ?_
            refine q_getR dX12_putFrom_142 fF_RX12_28 fl_168_9 ?_
            refine q_iload dX12_putFrom_145 rfl ?_
            refine q_iload_n dX12_putFrom_147 rfl ?_
            obtain ⟨hi10, h⟩ := h
            refine q_iastX (F := upd (σ6 175) x4.toNatClampNeg x1) dX12_putFrom_148 ar_175 hi10 rfl ?_
            refine q_aload_n dX12_putFrom_149 rfl ?_
            refine q_getR dX12_putFrom_150 fF_RX12_40 fl_168_21 ?_
            refine q_iload_n dX12_putFrom_153 rfl ?_
            refine q_iload dX12_putFrom_154 rfl ?_
            obtain ⟨hi11, h⟩ := h
            refine q_iastX (F := upd (σ6 179) x1.toNatClampNeg x4) dX12_putFrom_156 ar_179 hi11 rfl ?_
            refine q_aload_n dX12_putFrom_157 rfl ?_
            refine q_iload_n dX12_putFrom_158 rfl ?_
            refine q_iconst (v := 1) dX12_putFrom_159 (by decide) ?_
            refine q_iadd dX12_putFrom_160 ?_
            refine q_iload_n dX12_putFrom_161 rfl ?_
            refine q_aload_n dX12_putFrom_162 rfl ?_
            refine q_getR dX12_putFrom_163 fF_RX12_9 fl_168_0 ?_
            refine q_iload dX12_putFrom_166 rfl ?_
            refine q_bipush (v := 6) dX12_putFrom_168 (by decide) ?_
            refine q_cSi (e := (30 + 8 * x4 + (6 : Int32))) (d' := 0) [.int x4, .int 6] [.ref (g.2.1 169), .int x2, .int (x1 + 1), .ref (g.2.1 168)] dX12_putFrom_170 ok_X12_of mk_RX12_61 rfl (Nat.le_of_ble_eq_true rfl) (by first | decide | omega) (fun Φ h9 => c_X12_of (σ := su (su (su σ6 168 (upd (σ6 168) 25 ((σ6 168 25) - 1))) 175 (upd (σ6 175) x4.toNatClampNeg x1)) 179 (upd (σ6 179) x1.toNatClampNeg x4)) Φ h9) ?_
            obtain ⟨hi12, h⟩ := h
            refine q_ialdX (v := (σ6 169 (30 + 8 * x4 + (6 : Int32)).toNatClampNeg)) dX12_putFrom_173 ar_169 hi12 rfl ?_
            refine q_aload_n dX12_putFrom_174 rfl ?_
            refine q_getR dX12_putFrom_175 fF_RX12_9 fl_168_0 ?_
            refine q_bipush (v := 10) dX12_putFrom_178 (by decide) ?_
            refine q_iload_n dX12_putFrom_180 rfl ?_
            refine q_iadd dX12_putFrom_181 ?_
            obtain ⟨hi13, h⟩ := h
            refine q_ialdX (v := (σ6 169 (10 + x1).toNatClampNeg)) dX12_putFrom_182 ar_169 hi13 rfl ?_
            refine q_imul dX12_putFrom_183 ?_
            refine q_bipush (v := 100) dX12_putFrom_184 (by decide) ?_
            refine q_idiv dX12_putFrom_186 (by decide) ?_
            refine q_iadd dX12_putFrom_187 ?_
            refine q_iload_n dX12_putFrom_188 rfl ?_
            refine q_iconst (v := 1) dX12_putFrom_189 (by decide) ?_
            refine q_iadd dX12_putFrom_190 ?_
            refine q_cV (d' := d) [.int (x1 + 1), .int (x2 + (((σ6 169 (30 + 8 * x4 + (6 : Int32)).toNatClampNeg) * (σ6 169 (10 + x1).toNatClampNeg)) / 100)), .int (x3 + 1)] [] dX12_putFrom_191 ok_X12_putFrom mk_RX12_262 rc_168 rfl (Nat.le_of_ble_eq_true rfl) (by first | decide | omega) h (fun v σ14 h => ?_)
            obtain ⟨rfl, h⟩ := h
            refine q_aload_n dX12_putFrom_194 rfl ?_
            refine q_getR dX12_putFrom_195 fF_RX12_40 fl_168_21 ?_
            refine q_iload_n dX12_putFrom_198 rfl ?_
            refine q_iconst (v := (-1)) dX12_putFrom_199 (by decide) ?_
            refine q_iastX (F := upd (σ14 179) x1.toNatClampNeg (-1)) dX12_putFrom_200 ar_179 hi11 rfl ?_
            refine q_aload_n dX12_putFrom_201 rfl ?_
            refine q_getR dX12_putFrom_202 fF_RX12_28 fl_168_9 ?_
            refine q_iload dX12_putFrom_205 rfl ?_
            refine q_iconst (v := (-1)) dX12_putFrom_207 (by decide) ?_
            refine q_iastX (F := upd (σ14 175) x4.toNatClampNeg (-1)) dX12_putFrom_208 ar_175 hi10 rfl ?_
            refine q_iinc (L' := [some (.ref (g.2.1 168)), some (.int x1), some (.int x2), some (.int x3), some (.int (x4 + 1))]) dX12_putFrom_209 rfl (by decide) rfl rfl ?_
            refine q_goto (tgt := 83) dX12_putFrom_212 (by decide) ?_
            exact h
          · have h := h.2 c9
            refine q_aload_n dX12_putFrom_125 rfl ?_
            refine q_iconst (v := 1) dX12_putFrom_126 (by decide) ?_
            refine q_putXZ (F := upd (σ6 168) 26 1) dX12_putFrom_127 fF_RX12_269 fP_12_26 fl_168_26 (by decide) rfl ?_
            exact q_vret rfl dX12_putFrom_130 h
        · have h := h.2 c8
          refine q_goto (tgt := 209) dX12_putFrom_115 (by decide) ?_
          refine q_iinc (L' := [some (.ref (g.2.1 168)), some (.int x1), some (.int x2), some (.int x3), some (.int (x4 + 1))]) dX12_putFrom_209 rfl (by decide) rfl rfl ?_
          refine q_goto (tgt := 83) dX12_putFrom_212 (by decide) ?_
          exact h

theorem s_X12_putFrom_43 (g : vt_GT) (σ : vt_Sg) (P : Option Value → vt_Sg → Prop) (d : Nat) (hd : 9 ≤ d) (x1 : Int32) (x2 : Int32) (x3 : Int32) (x4 : Int32)
  (h : (12 ≤ x4 → P none σ) ∧ (¬ 12 ≤ x4 → vp_in x4 12 ∧ (TT g (vt_R (d + 1)) 0 0 D_X12_putFrom none 43 [some (.ref (g.2.1 168)), some (.int x1), some (.int x2), some (.int x3), some (.int (x4 + 1))] [] (su σ 180 (upd (σ 180) x4.toNatClampNeg (σ 179 x4.toNatClampNeg))) P))) :
  TT g (vt_R (d + 1)) 0 0 D_X12_putFrom none 43 [some (.ref (g.2.1 168)), some (.int x1), some (.int x2), some (.int x3), some (.int x4)] [] σ P := by
  refine q_iload dX12_putFrom_43 rfl ?_
  refine q_bipush (v := 12) dX12_putFrom_45 (by decide) ?_
  refine q_icmp_ge (tgt := 70) dX12_putFrom_47 (by decide) (fun c1 => ?_) (fun c1 => ?_)
  · have h := h.1 c1
    exact q_vret rfl dX12_putFrom_70 h
  · have h := h.2 c1
    refine q_aload_n dX12_putFrom_50 rfl ?_
    refine q_getR dX12_putFrom_51 fF_RX12_43 fl_168_22 ?_
    refine q_iload dX12_putFrom_54 rfl ?_
    refine q_aload_n dX12_putFrom_56 rfl ?_
    refine q_getR dX12_putFrom_57 fF_RX12_40 fl_168_21 ?_
    refine q_iload dX12_putFrom_60 rfl ?_
    obtain ⟨hi2, h⟩ := h
    refine q_ialdX (v := (σ 179 x4.toNatClampNeg)) dX12_putFrom_62 ar_179 hi2 rfl ?_
    refine q_iastX (F := upd (σ 180) x4.toNatClampNeg (σ 179 x4.toNatClampNeg)) dX12_putFrom_63 ar_180 hi2 rfl ?_
    refine q_iinc (L' := [some (.ref (g.2.1 168)), some (.int x1), some (.int x2), some (.int x3), some (.int (x4 + 1))]) dX12_putFrom_64 rfl (by decide) rfl rfl ?_
    refine q_goto (tgt := 43) dX12_putFrom_67 (by decide) ?_
    exact h

theorem s_X12_isTaken_0 (g : vt_GT) (σ : vt_Sg) (P : Option Value → vt_Sg → Prop) (p1 : Int32)
  (h : vt_Mi g 0 D_X12_shopAt [.ref (g.2.1 168), .int p1] σ (fun r2 σ1 => (r2 < 0 → P (some (.int 0)) σ1) ∧ (¬ r2 < 0 → P (some (.int 1)) σ1))) :
  TT g (vt_R 1) 0 0 D_X12_isTaken none 0 [some (.ref (g.2.1 168)), some (.int p1)] [] σ P := by
  refine q_aload_n dX12_isTaken_0 rfl ?_
  refine q_iload_n dX12_isTaken_1 rfl ?_
  refine q_cV (d' := 0) [.int p1] [] dX12_isTaken_2 ok_X12_shopAt mk_RX12_76 rc_168 rfl (Nat.le_of_ble_eq_true rfl) (by first | decide | omega) h (fun v σ1 h => ?_)
  obtain ⟨r2, rfl, h⟩ := h
  refine q_if_lt (tgt := 12) dX12_isTaken_5 (by decide) (fun c3 => ?_) (fun c3 => ?_)
  · have h := h.1 c3
    refine q_iconst (v := 0) dX12_isTaken_12 (by decide) ?_
    exact q_iret .boolean rfl rfl dX12_isTaken_13 h
  · have h := h.2 c3
    refine q_iconst (v := 1) dX12_isTaken_8 (by decide) ?_
    refine q_goto (tgt := 13) dX12_isTaken_9 (by decide) ?_
    exact q_iret .boolean rfl rfl dX12_isTaken_13 h

theorem s_X12_findMix_0 (g : vt_GT) (σ : vt_Sg) (P : Option Value → vt_Sg → Prop) (p1 : Int32)
  (h : vt_Mv g 1 D_X12_findStands [.ref (g.2.1 168), .int (σ 169 0)] σ (fun σ1 => TT g (vt_R 41) 0 0 D_X12_findMix none 12 [some (.ref (g.2.1 168)), some (.int p1), some (.int 0)] [] σ1 P)) :
  TT g (vt_R 41) 0 0 D_X12_findMix none 0 [some (.ref (g.2.1 168)), some (.int p1), none] [] σ P := by
  refine q_aload_n dX12_findMix_0 rfl ?_
  refine q_aload_n dX12_findMix_1 rfl ?_
  refine q_getR dX12_findMix_2 fF_RX12_9 fl_168_0 ?_
  refine q_iconst (v := 0) dX12_findMix_5 (by decide) ?_
  refine q_ialdX (v := (σ 169 0)) dX12_findMix_6 ar_169 (vt_inl rfl) rfl ?_
  refine q_cV (d' := 1) [.int (σ 169 0)] [] dX12_findMix_7 ok_X12_findStands mk_RX12_72 rc_168 rfl (Nat.le_of_ble_eq_true rfl) (by first | decide | omega) h (fun v σ1 h => ?_)
  obtain ⟨rfl, h⟩ := h
  refine q_iconst (v := 0) dX12_findMix_10 (by decide) ?_
  refine q_istore_n (L' := [some (.ref (g.2.1 168)), some (.int p1), some (.int 0)]) dX12_findMix_11 (by decide) rfl rfl ?_
  exact h

theorem s_X12_findMix_12 (g : vt_GT) (σ : vt_Sg) (P : Option Value → vt_Sg → Prop) (x1 : Int32) (x2 : Int32)
  (h : (12 ≤ x2 → vt_Mv g 40 D_X12_putFrom [.ref (g.2.1 168), .int 0, .int 0, .int 0] (su (su (su (su σ 168 (upd (σ 168) 23 (-1))) 168 (upd (upd (σ 168) 23 (-1)) 24 0)) 168 (upd (upd (upd (σ 168) 23 (-1)) 24 0) 25 x1)) 168 (upd (upd (upd (upd (σ 168) 23 (-1)) 24 0) 25 x1) 26 0)) (fun σ2 => ((σ2 168 26) = 0 → P (some (.int 0)) σ2) ∧ (¬ (σ2 168 26) = 0 → P (some (.int (-1000000004))) σ2))) ∧ (¬ 12 ≤ x2 → vp_in x2 12 ∧ (TT g (vt_R 41) 0 0 D_X12_findMix none 12 [some (.ref (g.2.1 168)), some (.int x1), some (.int (x2 + 1))] [] (su σ 179 (upd (σ 179) x2.toNatClampNeg (-1))) P))) :
  TT g (vt_R 41) 0 0 D_X12_findMix none 12 [some (.ref (g.2.1 168)), some (.int x1), some (.int x2)] [] σ P := by
  refine q_iload_n dX12_findMix_12 rfl ?_
  refine q_bipush (v := 12) dX12_findMix_13 (by decide) ?_
  refine q_icmp_ge (tgt := 31) dX12_findMix_15 (by decide) (fun c1 => ?_) (fun c1 => ?_)
  · have h := h.1 c1
    refine q_aload_n dX12_findMix_31 rfl ?_
    refine q_iconst (v := (-1)) dX12_findMix_32 (by decide) ?_
    refine q_putX (F := upd (σ 168) 23 (-1)) dX12_findMix_33 fF_RX12_256 fP_12_23 fl_168_23 rfl ?_
    refine q_aload_n dX12_findMix_36 rfl ?_
    refine q_iconst (v := 0) dX12_findMix_37 (by decide) ?_
    refine q_putX (F := upd (upd (σ 168) 23 (-1)) 24 0) dX12_findMix_38 fF_RX12_259 fP_12_24 fl_168_24 rfl ?_
    refine q_aload_n dX12_findMix_41 rfl ?_
    refine q_iload_n dX12_findMix_42 rfl ?_
    refine q_putX (F := upd (upd (upd (σ 168) 23 (-1)) 24 0) 25 x1) dX12_findMix_43 fF_RX12_276 fP_12_25 fl_168_25 rfl ?_
    refine q_aload_n dX12_findMix_46 rfl ?_
    refine q_iconst (v := 0) dX12_findMix_47 (by decide) ?_
    refine q_putXZ (F := upd (upd (upd (upd (σ 168) 23 (-1)) 24 0) 25 x1) 26 0) dX12_findMix_48 fF_RX12_269 fP_12_26 fl_168_26 (by decide) rfl ?_
    refine q_aload_n dX12_findMix_51 rfl ?_
    refine q_iconst (v := 0) dX12_findMix_52 (by decide) ?_
    refine q_iconst (v := 0) dX12_findMix_53 (by decide) ?_
    refine q_iconst (v := 0) dX12_findMix_54 (by decide) ?_
    refine q_cV (d' := 40) [.int 0, .int 0, .int 0] [] dX12_findMix_55 ok_X12_putFrom mk_RX12_262 rc_168 rfl (Nat.le_of_ble_eq_true rfl) (by first | decide | omega) h (fun v σ2 h => ?_)
    obtain ⟨rfl, h⟩ := h
    refine q_aload_n dX12_findMix_58 rfl ?_
    refine q_getX (x := (σ2 168 26)) dX12_findMix_59 fF_RX12_269 fl_168_26 rfl ?_
    refine q_if_eq (tgt := 71) dX12_findMix_62 (by decide) (fun c3 => ?_) (fun c3 => ?_)
    · have h := h.1 c3
      refine q_iconst (v := 0) dX12_findMix_71 (by decide) ?_
      exact q_iret .int rfl rfl dX12_findMix_72 h
    · have h := h.2 c3
      refine q_ldcw dX12_findMix_65 ct_RX12_279 ?_
      refine q_goto (tgt := 72) dX12_findMix_68 (by decide) ?_
      exact q_iret .int rfl rfl dX12_findMix_72 h
  · have h := h.2 c1
    refine q_aload_n dX12_findMix_18 rfl ?_
    refine q_getR dX12_findMix_19 fF_RX12_40 fl_168_21 ?_
    refine q_iload_n dX12_findMix_22 rfl ?_
    refine q_iconst (v := (-1)) dX12_findMix_23 (by decide) ?_
    obtain ⟨hi4, h⟩ := h
    refine q_iastX (F := upd (σ 179) x2.toNatClampNeg (-1)) dX12_findMix_24 ar_179 hi4 rfl ?_
    refine q_iinc (L' := [some (.ref (g.2.1 168)), some (.int x1), some (.int (x2 + 1))]) dX12_findMix_25 rfl (by decide) rfl rfl ?_
    refine q_goto (tgt := 12) dX12_findMix_28 (by decide) ?_
    exact h

theorem s_X12_mix_0 (g : vt_GT) (σ : vt_Sg) (P : Option Value → vt_Sg → Prop) (p1 : Int32)
  (h : ((¬ p1 < (1 : Int32) ∧ ¬ (50000 : Int32) < p1) → vt_Mi g 41 D_X12_findMix [.ref (g.2.1 168), .int p1] σ (fun r3 σ2 => (r3 = 0 → P (some (.int (σ2 168 23))) σ2) ∧ (¬ r3 = 0 → P (some (.int r3)) σ2))) ∧ (¬ (¬ p1 < (1 : Int32) ∧ ¬ (50000 : Int32) < p1) → P (some (.int (-1000000001))) σ)) :
  TT g (vt_R 42) 0 0 D_X12_mix none 0 [some (.ref (g.2.1 168)), some (.int p1), none] [] σ P := by
  refine q_iload_n dX12_mix_0 rfl ?_
  refine q_iconst (v := 1) dX12_mix_1 (by decide) ?_
  refine q_ldcw dX12_mix_2 ct_RX12_280 ?_
  refine q_cSb (C := ¬ p1 < (1 : Int32) ∧ ¬ (50000 : Int32) < p1) (d' := 0) [.int p1, .int 1, .int 50000] [] dX12_mix_5 ok_X12_within mk_RX12_49 rfl (Nat.le_of_ble_eq_true rfl) (by first | decide | omega) (fun Φ h9 => c_X12_within (σ := σ) Φ h9) (fun c1 => ?_) (fun c1 => ?_)
  · have h := h.1 c1
    refine q_if_ne (tgt := 14) dX12_mix_8 (by decide) (fun _ => ?_) (fun c => absurd c (by decide))
    refine q_aload_n dX12_mix_14 rfl ?_
    refine q_iload_n dX12_mix_15 rfl ?_
    refine q_cV (d' := 41) [.int p1] [] dX12_mix_16 ok_X12_findMix mk_RX12_281 rc_168 rfl (Nat.le_of_ble_eq_true rfl) (by first | decide | omega) h (fun v σ2 h => ?_)
    obtain ⟨r3, rfl, h⟩ := h
    refine q_istore_n (L' := [some (.ref (g.2.1 168)), some (.int p1), some (.int r3)]) dX12_mix_19 (by decide) rfl rfl ?_
    refine q_iload_n dX12_mix_20 rfl ?_
    refine q_if_eq (tgt := 28) dX12_mix_21 (by decide) (fun c4 => ?_) (fun c4 => ?_)
    · have h := h.1 c4
      refine q_aload_n dX12_mix_28 rfl ?_
      refine q_getX (x := (σ2 168 23)) dX12_mix_29 fF_RX12_256 fl_168_23 rfl ?_
      exact q_iret .int rfl rfl dX12_mix_32 h
    · have h := h.2 c4
      refine q_iload_n dX12_mix_24 rfl ?_
      refine q_goto (tgt := 32) dX12_mix_25 (by decide) ?_
      exact q_iret .int rfl rfl dX12_mix_32 h
  · have h := h.2 c1
    refine q_if_ne (tgt := 14) dX12_mix_8 (by decide) (fun c => absurd rfl c) (fun _ => ?_)
    refine q_ldc dX12_mix_11 ct_RX12_57 ?_
    exact q_iret .int rfl rfl dX12_mix_13 h

theorem s_X12_mixed_0 (g : vt_GT) (σ : vt_Sg) (P : Option Value → vt_Sg → Prop) (p1 : Int32) (p2 : Int32)
  (h : ((¬ p1 < (1 : Int32) ∧ ¬ (50000 : Int32) < p1) → ((¬ p2 < 0 ∧ ¬ 11 < p2) → vt_Mi g 41 D_X12_findMix [.ref (g.2.1 168), .int p1] σ (fun r4 σ3 => (r4 = 0 → vp_in p2 12 ∧ ((0 ≤ (σ3 180 p2.toNatClampNeg) → P (some (.int (σ3 180 p2.toNatClampNeg))) σ3) ∧ (¬ 0 ≤ (σ3 180 p2.toNatClampNeg) → P (some (.int (-1000000005))) σ3))) ∧ (¬ r4 = 0 → P (some (.int r4)) σ3))) ∧ (¬ (¬ p2 < 0 ∧ ¬ 11 < p2) → P (some (.int (-1000000001))) σ)) ∧ (¬ (¬ p1 < (1 : Int32) ∧ ¬ (50000 : Int32) < p1) → P (some (.int (-1000000001))) σ)) :
  TT g (vt_R 42) 0 0 D_X12_mixed none 0 [some (.ref (g.2.1 168)), some (.int p1), some (.int p2), none] [] σ P := by
  refine q_iload_n dX12_mixed_0 rfl ?_
  refine q_iconst (v := 1) dX12_mixed_1 (by decide) ?_
  refine q_ldcw dX12_mixed_2 ct_RX12_280 ?_
  refine q_cSb (C := ¬ p1 < (1 : Int32) ∧ ¬ (50000 : Int32) < p1) (d' := 0) [.int p1, .int 1, .int 50000] [] dX12_mixed_5 ok_X12_within mk_RX12_49 rfl (Nat.le_of_ble_eq_true rfl) (by first | decide | omega) (fun Φ h9 => c_X12_within (σ := σ) Φ h9) (fun c1 => ?_) (fun c1 => ?_)
  · have h := h.1 c1
    refine q_if_eq (tgt := 18) dX12_mixed_8 (by decide) (fun c => absurd c (by decide)) (fun _ => ?_)
    refine q_iload_n dX12_mixed_11 rfl ?_
    refine q_cSb (C := ¬ p2 < 0 ∧ ¬ 11 < p2) (d' := 1) [.int p2] [] dX12_mixed_12 ok_X12_isPlace mk_RX12_53 rfl (Nat.le_of_ble_eq_true rfl) (by first | decide | omega) (fun Φ h9 => c_X12_isPlace (σ := σ) Φ h9) (fun c2 => ?_) (fun c2 => ?_)
    · have h := h.1 c2
      refine q_if_ne (tgt := 21) dX12_mixed_15 (by decide) (fun _ => ?_) (fun c => absurd c (by decide))
      refine q_aload_n dX12_mixed_21 rfl ?_
      refine q_iload_n dX12_mixed_22 rfl ?_
      refine q_cV (d' := 41) [.int p1] [] dX12_mixed_23 ok_X12_findMix mk_RX12_281 rc_168 rfl (Nat.le_of_ble_eq_true rfl) (by first | decide | omega) h (fun v σ3 h => ?_)
      obtain ⟨r4, rfl, h⟩ := h
      refine q_istore_n (L' := [some (.ref (g.2.1 168)), some (.int p1), some (.int p2), some (.int r4)]) dX12_mixed_26 (by decide) rfl rfl ?_
      refine q_iload_n dX12_mixed_27 rfl ?_
      refine q_if_eq (tgt := 35) dX12_mixed_28 (by decide) (fun c5 => ?_) (fun c5 => ?_)
      · have h := h.1 c5
        refine q_aload_n dX12_mixed_35 rfl ?_
        refine q_getR dX12_mixed_36 fF_RX12_43 fl_168_22 ?_
        refine q_iload_n dX12_mixed_39 rfl ?_
        obtain ⟨hi6, h⟩ := h
        refine q_ialdX (v := (σ3 180 p2.toNatClampNeg)) dX12_mixed_40 ar_180 hi6 rfl ?_
        refine q_if_ge (tgt := 49) dX12_mixed_41 (by decide) (fun c7 => ?_) (fun c7 => ?_)
        · have h := h.1 c7
          refine q_aload_n dX12_mixed_49 rfl ?_
          refine q_getR dX12_mixed_50 fF_RX12_43 fl_168_22 ?_
          refine q_iload_n dX12_mixed_53 rfl ?_
          refine q_ialdX (v := (σ3 180 p2.toNatClampNeg)) dX12_mixed_54 ar_180 hi6 rfl ?_
          exact q_iret .int rfl rfl dX12_mixed_55 h
        · have h := h.2 c7
          refine q_ldc dX12_mixed_44 ct_RX12_71 ?_
          refine q_goto (tgt := 55) dX12_mixed_46 (by decide) ?_
          exact q_iret .int rfl rfl dX12_mixed_55 h
      · have h := h.2 c5
        refine q_iload_n dX12_mixed_31 rfl ?_
        refine q_goto (tgt := 55) dX12_mixed_32 (by decide) ?_
        exact q_iret .int rfl rfl dX12_mixed_55 h
    · have h := h.2 c2
      refine q_if_ne (tgt := 21) dX12_mixed_15 (by decide) (fun c => absurd rfl c) (fun _ => ?_)
      refine q_ldc dX12_mixed_18 ct_RX12_57 ?_
      exact q_iret .int rfl rfl dX12_mixed_20 h
  · have h := h.2 c1
    refine q_if_eq (tgt := 18) dX12_mixed_8 (by decide) (fun _ => ?_) (fun c => absurd (by decide) c)
    refine q_ldc dX12_mixed_18 ct_RX12_57 ?_
    exact q_iret .int rfl rfl dX12_mixed_20 h

theorem s_X12_tell_0 (g : vt_GT) (σ : vt_Sg) (P : Option Value → vt_Sg → Prop) (p1 : Int32)
  (h : (¬ (σ 168 6) = 24 → vp_in (σ 168 6) 24 ∧ (P (some (.int ((σ 168 6) + 1))) (su (su σ 172 (upd (σ 172) ((σ 168 6).toNatClampNeg) p1)) 168 (upd (σ 168) 6 ((σ 168 6) + 1))))) ∧ ((σ 168 6) = 24 → P (some (.int (-1000000003))) σ)) :
  TT g (vt_R 0) 0 0 D_X12_tell none 0 [some (.ref (g.2.1 168)), some (.int p1)] [] σ P := by
  refine q_aload_n dX12_tell_0 rfl ?_
  refine q_getX (x := (σ 168 6)) dX12_tell_1 fF_RX12_284 fl_168_6 rfl ?_
  refine q_bipush (v := 24) dX12_tell_4 (by decide) ?_
  refine q_icmp_ne (tgt := 12) dX12_tell_6 (by decide) (fun c1 => ?_) (fun c1 => ?_)
  · have h := h.1 c1
    refine q_aload_n dX12_tell_12 rfl ?_
    refine q_getR dX12_tell_13 fF_RX12_19 fl_168_5 ?_
    refine q_aload_n dX12_tell_16 rfl ?_
    refine q_getX (x := (σ 168 6)) dX12_tell_17 fF_RX12_284 fl_168_6 rfl ?_
    refine q_iload_n dX12_tell_20 rfl ?_
    obtain ⟨hi2, h⟩ := h
    refine q_iastX (F := upd (σ 172) ((σ 168 6).toNatClampNeg) p1) dX12_tell_21 ar_172 hi2 rfl ?_
    refine q_aload_n dX12_tell_22 rfl ?_
    refine q_dup dX12_tell_23 rfl ?_
    refine q_getX (x := (σ 168 6)) dX12_tell_24 fF_RX12_284 fl_168_6 rfl ?_
    refine q_iconst (v := 1) dX12_tell_27 (by decide) ?_
    refine q_iadd dX12_tell_28 ?_
    refine q_putX (F := upd (σ 168) 6 ((σ 168 6) + 1)) dX12_tell_29 fF_RX12_284 fP_12_6 fl_168_6 rfl ?_
    refine q_aload_n dX12_tell_32 rfl ?_
    refine q_getX (x := ((σ 168 6) + 1)) dX12_tell_33 fF_RX12_284 fl_168_6 rfl ?_
    exact q_iret .int rfl rfl dX12_tell_36 h
  · have h := h.2 c1
    refine q_ldc dX12_tell_9 ct_RX12_59 ?_
    exact q_iret .int rfl rfl dX12_tell_11 h

theorem s_X12_check_0 (g : vt_GT) (σ : vt_Sg) (P : Option Value → vt_Sg → Prop) 
  (h : vt_Mi g 41 D_X12_findMix [.ref (g.2.1 168), .int 50000] (su σ 168 (upd (σ 168) 6 0)) (fun r2 σ1 => (r2 = 0 → TT g (vt_R 42) 0 0 D_X12_check none 29 [some (.ref (g.2.1 168)), some (.int (σ 168 6)), some (.int r2), some (.int 0), some (.int 0), none] [] σ1 P) ∧ (¬ r2 = 0 → P (some (.int r2)) σ1))) :
  TT g (vt_R 42) 0 0 D_X12_check none 0 [some (.ref (g.2.1 168)), none, none, none, none, none] [] σ P := by
  refine q_aload_n dX12_check_0 rfl ?_
  refine q_getX (x := (σ 168 6)) dX12_check_1 fF_RX12_284 fl_168_6 rfl ?_
  refine q_istore_n (L' := [some (.ref (g.2.1 168)), some (.int (σ 168 6)), none, none, none, none]) dX12_check_4 (by decide) rfl rfl ?_
  refine q_aload_n dX12_check_5 rfl ?_
  refine q_iconst (v := 0) dX12_check_6 (by decide) ?_
  refine q_putX (F := upd (σ 168) 6 0) dX12_check_7 fF_RX12_284 fP_12_6 fl_168_6 rfl ?_
  refine q_aload_n dX12_check_10 rfl ?_
  refine q_ldcw dX12_check_11 ct_RX12_280 ?_
  refine q_cV (d' := 41) [.int 50000] [] dX12_check_14 ok_X12_findMix mk_RX12_281 rc_168 rfl (Nat.le_of_ble_eq_true rfl) (by first | decide | omega) h (fun v σ1 h => ?_)
  obtain ⟨r2, rfl, h⟩ := h
  refine q_istore_n (L' := [some (.ref (g.2.1 168)), some (.int (σ 168 6)), some (.int r2), none, none, none]) dX12_check_17 (by decide) rfl rfl ?_
  refine q_iload_n dX12_check_18 rfl ?_
  refine q_if_eq (tgt := 24) dX12_check_19 (by decide) (fun c3 => ?_) (fun c3 => ?_)
  · have h := h.1 c3
    refine q_iconst (v := 0) dX12_check_24 (by decide) ?_
    refine q_istore_n (L' := [some (.ref (g.2.1 168)), some (.int (σ 168 6)), some (.int r2), some (.int 0), none, none]) dX12_check_25 (by decide) rfl rfl ?_
    refine q_iconst (v := 0) dX12_check_26 (by decide) ?_
    refine q_istore (L' := [some (.ref (g.2.1 168)), some (.int (σ 168 6)), some (.int r2), some (.int 0), some (.int 0), none]) dX12_check_27 (by decide) rfl rfl ?_
    exact h
  · have h := h.2 c3
    refine q_iload_n dX12_check_22 rfl ?_
    exact q_iret .int rfl rfl dX12_check_23 h

theorem s_X12_check_29 (g : vt_GT) (σ : vt_Sg) (P : Option Value → vt_Sg → Prop) (x1 : Int32) (x2 : Int32) (x3 : Int32) (x4 : Int32)
  (h : (12 ≤ x4 → (x1 ≤ x3 → P (some (.int 0)) σ) ∧ (¬ x1 ≤ x3 → P (some (.int (1 + x3))) σ)) ∧ (¬ 12 ≤ x4 → TT g (vt_R 42) 0 0 D_X12_check none 39 [some (.ref (g.2.1 168)), some (.int x1), some (.int x2), some (.int x3), some (.int x4), some (.int 0)] [] σ P)) :
  TT g (vt_R 42) 0 0 D_X12_check none 29 [some (.ref (g.2.1 168)), some (.int x1), some (.int x2), some (.int x3), some (.int x4), none] [] σ P := by
  refine q_iload dX12_check_29 rfl ?_
  refine q_bipush (v := 12) dX12_check_31 (by decide) ?_
  refine q_icmp_ge (tgt := 105) dX12_check_33 (by decide) (fun c1 => ?_) (fun c1 => ?_)
  · have h := h.1 c1
    refine q_iload_n dX12_check_105 rfl ?_
    refine q_iload_n dX12_check_106 rfl ?_
    refine q_icmp_ge (tgt := 116) dX12_check_107 (by decide) (fun c2 => ?_) (fun c2 => ?_)
    · have h := h.1 c2
      refine q_iconst (v := 0) dX12_check_116 (by decide) ?_
      exact q_iret .int rfl rfl dX12_check_117 h
    · have h := h.2 c2
      refine q_iconst (v := 1) dX12_check_110 (by decide) ?_
      refine q_iload_n dX12_check_111 rfl ?_
      refine q_iadd dX12_check_112 ?_
      refine q_goto (tgt := 117) dX12_check_113 (by decide) ?_
      exact q_iret .int rfl rfl dX12_check_117 h
  · have h := h.2 c1
    refine q_iconst (v := 0) dX12_check_36 (by decide) ?_
    refine q_istore (L' := [some (.ref (g.2.1 168)), some (.int x1), some (.int x2), some (.int x3), some (.int x4), some (.int 0)]) dX12_check_37 (by decide) rfl rfl ?_
    exact h

theorem s_X12_check_39 (g : vt_GT) (σ : vt_Sg) (P : Option Value → vt_Sg → Prop) (x1 : Int32) (x2 : Int32) (x3 : Int32) (x4 : Int32) (x5 : Int32)
  (h : (2 ≤ x5 → TT g (vt_R 42) 0 0 D_X12_check none 29 [some (.ref (g.2.1 168)), some (.int x1), some (.int x2), some (.int x3), some (.int (x4 + 1)), none] [] σ P) ∧ (¬ 2 ≤ x5 → vp_in x4 12 ∧ (((σ 180 x4.toNatClampNeg) < 0 → TT g (vt_R 42) 0 0 D_X12_check none 29 [some (.ref (g.2.1 168)), some (.int x1), some (.int x2), some (.int x3), some (.int (x4 + 1)), none] [] σ P) ∧ (¬ (σ 180 x4.toNatClampNeg) < 0 → (x3 = x1 → P (some (.int (1 + x3))) σ) ∧ (¬ x3 = x1 → vp_in x3 24 ∧ ((¬ x5 = 0 → ((σ 172 x3.toNatClampNeg) = (σ 180 x4.toNatClampNeg) → TT g (vt_R 42) 0 0 D_X12_check none 39 [some (.ref (g.2.1 168)), some (.int x1), some (.int x2), some (.int (x3 + 1)), some (.int x4), some (.int (x5 + 1))] [] σ P) ∧ (¬ (σ 172 x3.toNatClampNeg) = (σ 180 x4.toNatClampNeg) → P (some (.int (1 + x3))) σ)) ∧ (x5 = 0 → ((σ 172 x3.toNatClampNeg) = x4 → TT g (vt_R 42) 0 0 D_X12_check none 39 [some (.ref (g.2.1 168)), some (.int x1), some (.int x2), some (.int (x3 + 1)), some (.int x4), some (.int (x5 + 1))] [] σ P) ∧ (¬ (σ 172 x3.toNatClampNeg) = x4 → P (some (.int (1 + x3))) σ)))))))) :
  TT g (vt_R 42) 0 0 D_X12_check none 39 [some (.ref (g.2.1 168)), some (.int x1), some (.int x2), some (.int x3), some (.int x4), some (.int x5)] [] σ P := by
  refine q_iload dX12_check_39 rfl ?_
  refine q_iconst (v := 2) dX12_check_41 (by decide) ?_
  refine q_icmp_ge (tgt := 99) dX12_check_42 (by decide) (fun c1 => ?_) (fun c1 => ?_)
  · have h := h.1 c1
    refine q_iinc (L' := [some (.ref (g.2.1 168)), some (.int x1), some (.int x2), some (.int x3), some (.int (x4 + 1)), some (.int x5)]) dX12_check_99 rfl (by decide) rfl rfl ?_
    refine q_goto (tgt := 29) dX12_check_102 (by decide) ?_
    exact q_wk (by simp [vt_le]) h
  · have h := h.2 c1
    refine q_aload_n dX12_check_45 rfl ?_
    refine q_getR dX12_check_46 fF_RX12_43 fl_168_22 ?_
    refine q_iload dX12_check_49 rfl ?_
    obtain ⟨hi2, h⟩ := h
    refine q_ialdX (v := (σ 180 x4.toNatClampNeg)) dX12_check_51 ar_180 hi2 rfl ?_
    refine q_if_lt (tgt := 99) dX12_check_52 (by decide) (fun c3 => ?_) (fun c3 => ?_)
    · have h := h.1 c3
      refine q_iinc (L' := [some (.ref (g.2.1 168)), some (.int x1), some (.int x2), some (.int x3), some (.int (x4 + 1)), some (.int x5)]) dX12_check_99 rfl (by decide) rfl rfl ?_
      refine q_goto (tgt := 29) dX12_check_102 (by decide) ?_
      exact q_wk (by simp [vt_le]) h
    · have h := h.2 c3
      refine q_iload_n dX12_check_55 rfl ?_
      refine q_iload_n dX12_check_56 rfl ?_
      refine q_icmp_eq (tgt := 86) dX12_check_57 (by decide) (fun c4 => ?_) (fun c4 => ?_)
      · have h := h.1 c4
        refine q_iconst (v := 1) dX12_check_86 (by decide) ?_
        refine q_iload_n dX12_check_87 rfl ?_
        refine q_iadd dX12_check_88 ?_
        exact q_iret .int rfl rfl dX12_check_89 h
      · have h := h.2 c4
        refine q_aload_n dX12_check_60 rfl ?_
        refine q_getR dX12_check_61 fF_RX12_19 fl_168_5 ?_
        refine q_iload_n dX12_check_64 rfl ?_
        obtain ⟨hi5, h⟩ := h
        refine q_ialdX (v := (σ 172 x3.toNatClampNeg)) dX12_check_65 ar_172 hi5 rfl ?_
        refine q_iload dX12_check_66 rfl ?_
        refine q_if_ne (tgt := 76) dX12_check_68 (by decide) (fun c6 => ?_) (fun c6 => ?_)
        · have h := h.1 c6
          refine q_aload_n dX12_check_76 rfl ?_
          refine q_getR dX12_check_77 fF_RX12_43 fl_168_22 ?_
          refine q_iload dX12_check_80 rfl ?_
          refine q_ialdX (v := (σ 180 x4.toNatClampNeg)) dX12_check_82 ar_180 hi2 rfl ?_
          refine q_icmp_eq (tgt := 90) dX12_check_83 (by decide) (fun c7 => ?_) (fun c7 => ?_)
          · have h := h.1 c7
            refine q_iinc (L' := [some (.ref (g.2.1 168)), some (.int x1), some (.int x2), some (.int (x3 + 1)), some (.int x4), some (.int x5)]) dX12_check_90 rfl (by decide) rfl rfl ?_
            refine q_iinc (L' := [some (.ref (g.2.1 168)), some (.int x1), some (.int x2), some (.int (x3 + 1)), some (.int x4), some (.int (x5 + 1))]) dX12_check_93 rfl (by decide) rfl rfl ?_
            refine q_goto (tgt := 39) dX12_check_96 (by decide) ?_
            exact h
          · have h := h.2 c7
            refine q_iconst (v := 1) dX12_check_86 (by decide) ?_
            refine q_iload_n dX12_check_87 rfl ?_
            refine q_iadd dX12_check_88 ?_
            exact q_iret .int rfl rfl dX12_check_89 h
        · have h := h.2 c6
          refine q_iload dX12_check_71 rfl ?_
          refine q_goto (tgt := 83) dX12_check_73 (by decide) ?_
          refine q_icmp_eq (tgt := 90) dX12_check_83 (by decide) (fun c8 => ?_) (fun c8 => ?_)
          · have h := h.1 c8
            refine q_iinc (L' := [some (.ref (g.2.1 168)), some (.int x1), some (.int x2), some (.int (x3 + 1)), some (.int x4), some (.int x5)]) dX12_check_90 rfl (by decide) rfl rfl ?_
            refine q_iinc (L' := [some (.ref (g.2.1 168)), some (.int x1), some (.int x2), some (.int (x3 + 1)), some (.int x4), some (.int (x5 + 1))]) dX12_check_93 rfl (by decide) rfl rfl ?_
            refine q_goto (tgt := 39) dX12_check_96 (by decide) ?_
            exact h
          · have h := h.2 c8
            refine q_iconst (v := 1) dX12_check_86 (by decide) ?_
            refine q_iload_n dX12_check_87 rfl ?_
            refine q_iadd dX12_check_88 ?_
            exact q_iret .int rfl rfl dX12_check_89 h

theorem s_X12_keep_0 (g : vt_GT) (σ : vt_Sg) (P : Option Value → vt_Sg → Prop) 
  (h : TT g (vt_R 0) 0 0 D_X12_keep none 2 [some (.ref (g.2.1 168)), some (.int 0)] [] σ P) :
  TT g (vt_R 0) 0 0 D_X12_keep none 0 [some (.ref (g.2.1 168)), none] [] σ P := by
  refine q_iconst (v := 0) dX12_keep_0 (by decide) ?_
  refine q_istore_n (L' := [some (.ref (g.2.1 168)), some (.int 0)]) dX12_keep_1 (by decide) rfl rfl ?_
  exact h

theorem s_X12_keep_2 (g : vt_GT) (σ : vt_Sg) (P : Option Value → vt_Sg → Prop) (x1 : Int32)
  (h : (2220 ≤ x1 → P (some (.int (σ 169 0))) (su σ 168 (upd (σ 168) 2 1))) ∧ (¬ 2220 ≤ x1 → vp_in x1 2220 ∧ (TT g (vt_R 0) 0 0 D_X12_keep none 2 [some (.ref (g.2.1 168)), some (.int (x1 + 1))] [] (su σ 170 (upd (σ 170) x1.toNatClampNeg (σ 169 x1.toNatClampNeg))) P))) :
  TT g (vt_R 0) 0 0 D_X12_keep none 2 [some (.ref (g.2.1 168)), some (.int x1)] [] σ P := by
  refine q_iload_n dX12_keep_2 rfl ?_
  refine q_sipush (v := 2220) dX12_keep_3 (by decide) ?_
  refine q_icmp_ge (tgt := 27) dX12_keep_6 (by decide) (fun c1 => ?_) (fun c1 => ?_)
  · have h := h.1 c1
    refine q_aload_n dX12_keep_27 rfl ?_
    refine q_iconst (v := 1) dX12_keep_28 (by decide) ?_
    refine q_putXZ (F := upd (σ 168) 2 1) dX12_keep_29 fF_RX12_287 fP_12_2 fl_168_2 (by decide) rfl ?_
    refine q_aload_n dX12_keep_32 rfl ?_
    refine q_getR dX12_keep_33 fF_RX12_9 fl_168_0 ?_
    refine q_iconst (v := 0) dX12_keep_36 (by decide) ?_
    refine q_ialdX (v := (σ 169 0)) dX12_keep_37 ar_169 (vt_inl rfl) rfl ?_
    exact q_iret .int rfl rfl dX12_keep_38 h
  · have h := h.2 c1
    refine q_aload_n dX12_keep_9 rfl ?_
    refine q_getR dX12_keep_10 fF_RX12_13 fl_168_1 ?_
    refine q_iload_n dX12_keep_13 rfl ?_
    refine q_aload_n dX12_keep_14 rfl ?_
    refine q_getR dX12_keep_15 fF_RX12_9 fl_168_0 ?_
    refine q_iload_n dX12_keep_18 rfl ?_
    obtain ⟨hi2, h⟩ := h
    refine q_ialdX (v := (σ 169 x1.toNatClampNeg)) dX12_keep_19 ar_169 hi2 rfl ?_
    refine q_iastX (F := upd (σ 170) x1.toNatClampNeg (σ 169 x1.toNatClampNeg)) dX12_keep_20 ar_170 hi2 rfl ?_
    refine q_iinc (L' := [some (.ref (g.2.1 168)), some (.int (x1 + 1))]) dX12_keep_21 rfl (by decide) rfl rfl ?_
    refine q_goto (tgt := 2) dX12_keep_24 (by decide) ?_
    exact h

theorem s_X12_back_0 (g : vt_GT) (σ : vt_Sg) (P : Option Value → vt_Sg → Prop) 
  (h : (¬ (σ 168 2) = 0 → TT g (vt_R 0) 0 0 D_X12_back none 12 [some (.ref (g.2.1 168)), some (.int 0)] [] σ P) ∧ ((σ 168 2) = 0 → P (some (.int (-1000000002))) σ)) :
  TT g (vt_R 0) 0 0 D_X12_back none 0 [some (.ref (g.2.1 168)), none] [] σ P := by
  refine q_aload_n dX12_back_0 rfl ?_
  refine q_getX (x := (σ 168 2)) dX12_back_1 fF_RX12_287 fl_168_2 rfl ?_
  refine q_if_ne (tgt := 10) dX12_back_4 (by decide) (fun c1 => ?_) (fun c1 => ?_)
  · have h := h.1 c1
    refine q_iconst (v := 0) dX12_back_10 (by decide) ?_
    refine q_istore_n (L' := [some (.ref (g.2.1 168)), some (.int 0)]) dX12_back_11 (by decide) rfl rfl ?_
    exact h
  · have h := h.2 c1
    refine q_ldc dX12_back_7 ct_RX12_80 ?_
    exact q_iret .int rfl rfl dX12_back_9 h

theorem s_X12_back_12 (g : vt_GT) (σ : vt_Sg) (P : Option Value → vt_Sg → Prop) (x1 : Int32)
  (h : (2220 ≤ x1 → P (some (.int (σ 169 0))) σ) ∧ (¬ 2220 ≤ x1 → vp_in x1 2220 ∧ (TT g (vt_R 0) 0 0 D_X12_back none 12 [some (.ref (g.2.1 168)), some (.int (x1 + 1))] [] (su σ 169 (upd (σ 169) x1.toNatClampNeg (σ 170 x1.toNatClampNeg))) P))) :
  TT g (vt_R 0) 0 0 D_X12_back none 12 [some (.ref (g.2.1 168)), some (.int x1)] [] σ P := by
  refine q_iload_n dX12_back_12 rfl ?_
  refine q_sipush (v := 2220) dX12_back_13 (by decide) ?_
  refine q_icmp_ge (tgt := 37) dX12_back_16 (by decide) (fun c1 => ?_) (fun c1 => ?_)
  · have h := h.1 c1
    refine q_aload_n dX12_back_37 rfl ?_
    refine q_getR dX12_back_38 fF_RX12_9 fl_168_0 ?_
    refine q_iconst (v := 0) dX12_back_41 (by decide) ?_
    refine q_ialdX (v := (σ 169 0)) dX12_back_42 ar_169 (vt_inl rfl) rfl ?_
    exact q_iret .int rfl rfl dX12_back_43 h
  · have h := h.2 c1
    refine q_aload_n dX12_back_19 rfl ?_
    refine q_getR dX12_back_20 fF_RX12_9 fl_168_0 ?_
    refine q_iload_n dX12_back_23 rfl ?_
    refine q_aload_n dX12_back_24 rfl ?_
    refine q_getR dX12_back_25 fF_RX12_13 fl_168_1 ?_
    refine q_iload_n dX12_back_28 rfl ?_
    obtain ⟨hi2, h⟩ := h
    refine q_ialdX (v := (σ 170 x1.toNatClampNeg)) dX12_back_29 ar_170 hi2 rfl ?_
    refine q_iastX (F := upd (σ 169) x1.toNatClampNeg (σ 170 x1.toNatClampNeg)) dX12_back_30 ar_169 hi2 rfl ?_
    refine q_iinc (L' := [some (.ref (g.2.1 168)), some (.int (x1 + 1))]) dX12_back_31 rfl (by decide) rfl rfl ?_
    refine q_goto (tgt := 12) dX12_back_34 (by decide) ?_
    exact h

theorem s_X12_sheet_0 (g : vt_GT) (σ : vt_Sg) (P : Option Value → vt_Sg → Prop) (p1 : Int32) (p2 : Int32)
  (h : ((¬ p1 < (0 : Int32) ∧ ¬ (1 : Int32) < p1) → (p2 ≤ 16 → (0 ≤ p2 → vp_in p1 2 ∧ (TT g (vt_R 1) 0 0 D_X12_sheet none 35 [some (.ref (g.2.1 168)), some (.int p1), some (.int p2), some (.int 0)] [] (su σ 173 (upd (σ 173) p1.toNatClampNeg p2)) P)) ∧ (¬ 0 ≤ p2 → P (some (.int (-1000000014))) σ)) ∧ (¬ p2 ≤ 16 → P (some (.int (-1000000001))) σ)) ∧ (¬ (¬ p1 < (0 : Int32) ∧ ¬ (1 : Int32) < p1) → P (some (.int (-1000000001))) σ)) :
  TT g (vt_R 1) 0 0 D_X12_sheet none 0 [some (.ref (g.2.1 168)), some (.int p1), some (.int p2), none] [] σ P := by
  refine q_iload_n dX12_sheet_0 rfl ?_
  refine q_iconst (v := 0) dX12_sheet_1 (by decide) ?_
  refine q_iconst (v := 1) dX12_sheet_2 (by decide) ?_
  refine q_cSb (C := ¬ p1 < (0 : Int32) ∧ ¬ (1 : Int32) < p1) (d' := 0) [.int p1, .int 0, .int 1] [] dX12_sheet_3 ok_X12_within mk_RX12_49 rfl (Nat.le_of_ble_eq_true rfl) (by first | decide | omega) (fun Φ h9 => c_X12_within (σ := σ) Φ h9) (fun c1 => ?_) (fun c1 => ?_)
  · have h := h.1 c1
    refine q_if_eq (tgt := 15) dX12_sheet_6 (by decide) (fun c => absurd c (by decide)) (fun _ => ?_)
    refine q_iload_n dX12_sheet_9 rfl ?_
    refine q_bipush (v := 16) dX12_sheet_10 (by decide) ?_
    refine q_icmp_le (tgt := 18) dX12_sheet_12 (by decide) (fun c2 => ?_) (fun c2 => ?_)
    · have h := h.1 c2
      refine q_iload_n dX12_sheet_18 rfl ?_
      refine q_if_ge (tgt := 26) dX12_sheet_19 (by decide) (fun c3 => ?_) (fun c3 => ?_)
      · have h := h.1 c3
        refine q_aload_n dX12_sheet_26 rfl ?_
        refine q_getR dX12_sheet_27 fF_RX12_22 fl_168_7 ?_
        refine q_iload_n dX12_sheet_30 rfl ?_
        refine q_iload_n dX12_sheet_31 rfl ?_
        obtain ⟨hi4, h⟩ := h
        refine q_iastX (F := upd (σ 173) p1.toNatClampNeg p2) dX12_sheet_32 ar_173 hi4 rfl ?_
        refine q_iconst (v := 0) dX12_sheet_33 (by decide) ?_
        refine q_istore_n (L' := [some (.ref (g.2.1 168)), some (.int p1), some (.int p2), some (.int 0)]) dX12_sheet_34 (by decide) rfl rfl ?_
        exact h
      · have h := h.2 c3
        refine q_ldcw dX12_sheet_22 ct_RX12_290 ?_
        exact q_iret .int rfl rfl dX12_sheet_25 h
    · have h := h.2 c2
      refine q_ldc dX12_sheet_15 ct_RX12_57 ?_
      exact q_iret .int rfl rfl dX12_sheet_17 h
  · have h := h.2 c1
    refine q_if_eq (tgt := 15) dX12_sheet_6 (by decide) (fun _ => ?_) (fun c => absurd (by decide) c)
    refine q_ldc dX12_sheet_15 ct_RX12_57 ?_
    exact q_iret .int rfl rfl dX12_sheet_17 h

theorem s_X12_sheet_35 (g : vt_GT) (σ : vt_Sg) (P : Option Value → vt_Sg → Prop) (x1 : Int32) (x2 : Int32) (x3 : Int32)
  (h : (16 ≤ x3 → P (some (.int x2)) σ) ∧ (¬ 16 ≤ x3 → vp_in ((16 * x1) + x3) 32 ∧ (TT g (vt_R 1) 0 0 D_X12_sheet none 35 [some (.ref (g.2.1 168)), some (.int x1), some (.int x2), some (.int (x3 + 1))] [] (su σ 174 (upd (σ 174) (((16 * x1) + x3).toNatClampNeg) 0)) P))) :
  TT g (vt_R 1) 0 0 D_X12_sheet none 35 [some (.ref (g.2.1 168)), some (.int x1), some (.int x2), some (.int x3)] [] σ P := by
  refine q_iload_n dX12_sheet_35 rfl ?_
  refine q_bipush (v := 16) dX12_sheet_36 (by decide) ?_
  refine q_icmp_ge (tgt := 59) dX12_sheet_38 (by decide) (fun c1 => ?_) (fun c1 => ?_)
  · have h := h.1 c1
    refine q_iload_n dX12_sheet_59 rfl ?_
    exact q_iret .int rfl rfl dX12_sheet_60 h
  · have h := h.2 c1
    refine q_aload_n dX12_sheet_41 rfl ?_
    refine q_getR dX12_sheet_42 fF_RX12_25 fl_168_8 ?_
    refine q_bipush (v := 16) dX12_sheet_45 (by decide) ?_
    refine q_iload_n dX12_sheet_47 rfl ?_
    refine q_imul dX12_sheet_48 ?_
    refine q_iload_n dX12_sheet_49 rfl ?_
    refine q_iadd dX12_sheet_50 ?_
    refine q_iconst (v := 0) dX12_sheet_51 (by decide) ?_
    obtain ⟨hi2, h⟩ := h
    refine q_iastX (F := upd (σ 174) (((16 * x1) + x3).toNatClampNeg) 0) dX12_sheet_52 ar_174 hi2 rfl ?_
    refine q_iinc (L' := [some (.ref (g.2.1 168)), some (.int x1), some (.int x2), some (.int (x3 + 1))]) dX12_sheet_53 rfl (by decide) rfl rfl ?_
    refine q_goto (tgt := 35) dX12_sheet_56 (by decide) ?_
    exact h

theorem s_X12_mark_0 (g : vt_GT) (σ : vt_Sg) (P : Option Value → vt_Sg → Prop) (p1 : Int32) (p2 : Int32) (p3 : Int32)
  (h : ((¬ p1 < (0 : Int32) ∧ ¬ (1 : Int32) < p1) → vp_in p1 2 ∧ ((0 ≤ (σ 173 p1.toNatClampNeg) → ((¬ p2 < (0 : Int32) ∧ ¬ ((σ 173 p1.toNatClampNeg) - 1) < p2) → vp_in ((16 * p1) + p2) 32 ∧ (P (some (.int (σ 174 ((16 * p1) + p2).toNatClampNeg))) (su σ 174 (upd (σ 174) (((16 * p1) + p2).toNatClampNeg) p3.toInt16.toInt32)))) ∧ (¬ (¬ p2 < (0 : Int32) ∧ ¬ ((σ 173 p1.toNatClampNeg) - 1) < p2) → P (some (.int (-1000000013))) σ)) ∧ (¬ 0 ≤ (σ 173 p1.toNatClampNeg) → P (some (.int (-1000000011))) σ))) ∧ (¬ (¬ p1 < (0 : Int32) ∧ ¬ (1 : Int32) < p1) → P (some (.int (-1000000001))) σ)) :
  TT g (vt_R 1) 0 0 D_X12_mark none 0 [some (.ref (g.2.1 168)), some (.int p1), some (.int p2), some (.int p3), none] [] σ P := by
  refine q_iload_n dX12_mark_0 rfl ?_
  refine q_iconst (v := 0) dX12_mark_1 (by decide) ?_
  refine q_iconst (v := 1) dX12_mark_2 (by decide) ?_
  refine q_cSb (C := ¬ p1 < (0 : Int32) ∧ ¬ (1 : Int32) < p1) (d' := 0) [.int p1, .int 0, .int 1] [] dX12_mark_3 ok_X12_within mk_RX12_49 rfl (Nat.le_of_ble_eq_true rfl) (by first | decide | omega) (fun Φ h9 => c_X12_within (σ := σ) Φ h9) (fun c1 => ?_) (fun c1 => ?_)
  · have h := h.1 c1
    refine q_if_ne (tgt := 12) dX12_mark_6 (by decide) (fun _ => ?_) (fun c => absurd c (by decide))
    refine q_aload_n dX12_mark_12 rfl ?_
    refine q_getR dX12_mark_13 fF_RX12_22 fl_168_7 ?_
    refine q_iload_n dX12_mark_16 rfl ?_
    obtain ⟨hi2, h⟩ := h
    refine q_ialdX (v := (σ 173 p1.toNatClampNeg)) dX12_mark_17 ar_173 hi2 rfl ?_
    refine q_if_ge (tgt := 24) dX12_mark_18 (by decide) (fun c3 => ?_) (fun c3 => ?_)
    · have h := h.1 c3
      refine q_iload_n dX12_mark_24 rfl ?_
      refine q_iconst (v := 0) dX12_mark_25 (by decide) ?_
      refine q_aload_n dX12_mark_26 rfl ?_
      refine q_getR dX12_mark_27 fF_RX12_22 fl_168_7 ?_
      refine q_iload_n dX12_mark_30 rfl ?_
      refine q_ialdX (v := (σ 173 p1.toNatClampNeg)) dX12_mark_31 ar_173 hi2 rfl ?_
      refine q_iconst (v := 1) dX12_mark_32 (by decide) ?_
      refine q_isub dX12_mark_33 ?_
      refine q_cSb (C := ¬ p2 < (0 : Int32) ∧ ¬ ((σ 173 p1.toNatClampNeg) - 1) < p2) (d' := 0) [.int p2, .int 0, .int ((σ 173 p1.toNatClampNeg) - 1)] [] dX12_mark_34 ok_X12_within mk_RX12_49 rfl (Nat.le_of_ble_eq_true rfl) (by first | decide | omega) (fun Φ h9 => c_X12_within (σ := σ) Φ h9) (fun c4 => ?_) (fun c4 => ?_)
      · have h := h.1 c4
        refine q_if_ne (tgt := 44) dX12_mark_37 (by decide) (fun _ => ?_) (fun c => absurd c (by decide))
        refine q_aload_n dX12_mark_44 rfl ?_
        refine q_getR dX12_mark_45 fF_RX12_25 fl_168_8 ?_
        refine q_bipush (v := 16) dX12_mark_48 (by decide) ?_
        refine q_iload_n dX12_mark_50 rfl ?_
        refine q_imul dX12_mark_51 ?_
        refine q_iload_n dX12_mark_52 rfl ?_
        refine q_iadd dX12_mark_53 ?_
        obtain ⟨hi5, h⟩ := h
        refine q_ialdX (v := (σ 174 ((16 * p1) + p2).toNatClampNeg)) dX12_mark_54 ar_174 hi5 rfl ?_
        refine q_istore (L' := [some (.ref (g.2.1 168)), some (.int p1), some (.int p2), some (.int p3), some (.int (σ 174 ((16 * p1) + p2).toNatClampNeg))]) dX12_mark_55 (by decide) rfl rfl ?_
        refine q_aload_n dX12_mark_57 rfl ?_
        refine q_getR dX12_mark_58 fF_RX12_25 fl_168_8 ?_
        refine q_bipush (v := 16) dX12_mark_61 (by decide) ?_
        refine q_iload_n dX12_mark_63 rfl ?_
        refine q_imul dX12_mark_64 ?_
        refine q_iload_n dX12_mark_65 rfl ?_
        refine q_iadd dX12_mark_66 ?_
        refine q_iload_n dX12_mark_67 rfl ?_
        refine q_i2s dX12_mark_68 ?_
        refine q_iastX (F := upd (σ 174) (((16 * p1) + p2).toNatClampNeg) p3.toInt16.toInt32) dX12_mark_69 ar_174 hi5 rfl ?_
        refine q_iload dX12_mark_70 rfl ?_
        exact q_iret .int rfl rfl dX12_mark_72 h
      · have h := h.2 c4
        refine q_if_ne (tgt := 44) dX12_mark_37 (by decide) (fun c => absurd rfl c) (fun _ => ?_)
        refine q_ldcw dX12_mark_40 ct_RX12_291 ?_
        exact q_iret .int rfl rfl dX12_mark_43 h
    · have h := h.2 c3
      refine q_ldc dX12_mark_21 ct_RX12_58 ?_
      exact q_iret .int rfl rfl dX12_mark_23 h
  · have h := h.2 c1
    refine q_if_ne (tgt := 12) dX12_mark_6 (by decide) (fun c => absurd rfl c) (fun _ => ?_)
    refine q_ldc dX12_mark_9 ct_RX12_57 ?_
    exact q_iret .int rfl rfl dX12_mark_11 h

theorem s_X12_copy_0 (g : vt_GT) (σ : vt_Sg) (P : Option Value → vt_Sg → Prop) (p1 : Int32) (p2 : Int32) (p3 : Int32) (p4 : Int32) (p5 : Int32)
  (h : ((¬ p1 < (0 : Int32) ∧ ¬ (1 : Int32) < p1) → ((¬ p3 < (0 : Int32) ∧ ¬ (1 : Int32) < p3) → vp_in p1 2 ∧ (((σ 173 p1.toNatClampNeg) < 0 → P (some (.int (-1000000011))) σ) ∧ (¬ (σ 173 p1.toNatClampNeg) < 0 → vp_in p3 2 ∧ ((0 ≤ (σ 173 p3.toNatClampNeg) → (p5 < 0 → P (some (.int (-1000000013))) σ) ∧ (¬ p5 < 0 → (p2 < 0 → P (some (.int (-1000000013))) σ) ∧ (¬ p2 < 0 → (p4 < 0 → P (some (.int (-1000000013))) σ) ∧ (¬ p4 < 0 → (0 < (lg_cmp (p2.toInt64 + p5.toInt64) ((σ 173 p1.toNatClampNeg).toInt64)) → P (some (.int (-1000000013))) σ) ∧ (¬ 0 < (lg_cmp (p2.toInt64 + p5.toInt64) ((σ 173 p1.toNatClampNeg).toInt64)) → ((lg_cmp (p4.toInt64 + p5.toInt64) ((σ 173 p3.toNatClampNeg).toInt64)) ≤ 0 → TT g (vt_R 1) 0 0 D_X12_copy none 98 [some (.ref (g.2.1 168)), some (.int p1), some (.int p2), some (.int p3), some (.int p4), some (.int p5), some (.int 0)] [] σ P) ∧ (¬ (lg_cmp (p4.toInt64 + p5.toInt64) ((σ 173 p3.toNatClampNeg).toInt64)) ≤ 0 → P (some (.int (-1000000013))) σ)))))) ∧ (¬ 0 ≤ (σ 173 p3.toNatClampNeg) → P (some (.int (-1000000011))) σ))))) ∧ (¬ (¬ p3 < (0 : Int32) ∧ ¬ (1 : Int32) < p3) → P (some (.int (-1000000001))) σ)) ∧ (¬ (¬ p1 < (0 : Int32) ∧ ¬ (1 : Int32) < p1) → P (some (.int (-1000000001))) σ)) :
  TT g (vt_R 1) 0 0 D_X12_copy none 0 [some (.ref (g.2.1 168)), some (.int p1), some (.int p2), some (.int p3), some (.int p4), some (.int p5), none] [] σ P := by
  refine q_iload_n dX12_copy_0 rfl ?_
  refine q_iconst (v := 0) dX12_copy_1 (by decide) ?_
  refine q_iconst (v := 1) dX12_copy_2 (by decide) ?_
  refine q_cSb (C := ¬ p1 < (0 : Int32) ∧ ¬ (1 : Int32) < p1) (d' := 0) [.int p1, .int 0, .int 1] [] dX12_copy_3 ok_X12_within mk_RX12_49 rfl (Nat.le_of_ble_eq_true rfl) (by first | decide | omega) (fun Φ h9 => c_X12_within (σ := σ) Φ h9) (fun c1 => ?_) (fun c1 => ?_)
  · have h := h.1 c1
    refine q_if_eq (tgt := 18) dX12_copy_6 (by decide) (fun c => absurd c (by decide)) (fun _ => ?_)
    refine q_iload_n dX12_copy_9 rfl ?_
    refine q_iconst (v := 0) dX12_copy_10 (by decide) ?_
    refine q_iconst (v := 1) dX12_copy_11 (by decide) ?_
    refine q_cSb (C := ¬ p3 < (0 : Int32) ∧ ¬ (1 : Int32) < p3) (d' := 0) [.int p3, .int 0, .int 1] [] dX12_copy_12 ok_X12_within mk_RX12_49 rfl (Nat.le_of_ble_eq_true rfl) (by first | decide | omega) (fun Φ h9 => c_X12_within (σ := σ) Φ h9) (fun c2 => ?_) (fun c2 => ?_)
    · have h := h.1 c2
      refine q_if_ne (tgt := 21) dX12_copy_15 (by decide) (fun _ => ?_) (fun c => absurd c (by decide))
      refine q_aload_n dX12_copy_21 rfl ?_
      refine q_getR dX12_copy_22 fF_RX12_22 fl_168_7 ?_
      refine q_iload_n dX12_copy_25 rfl ?_
      obtain ⟨hi3, h⟩ := h
      refine q_ialdX (v := (σ 173 p1.toNatClampNeg)) dX12_copy_26 ar_173 hi3 rfl ?_
      refine q_if_lt (tgt := 39) dX12_copy_27 (by decide) (fun c4 => ?_) (fun c4 => ?_)
      · have h := h.1 c4
        refine q_ldc dX12_copy_39 ct_RX12_58 ?_
        exact q_iret .int rfl rfl dX12_copy_41 h
      · have h := h.2 c4
        refine q_aload_n dX12_copy_30 rfl ?_
        refine q_getR dX12_copy_31 fF_RX12_22 fl_168_7 ?_
        refine q_iload_n dX12_copy_34 rfl ?_
        obtain ⟨hi5, h⟩ := h
        refine q_ialdX (v := (σ 173 p3.toNatClampNeg)) dX12_copy_35 ar_173 hi5 rfl ?_
        refine q_if_ge (tgt := 42) dX12_copy_36 (by decide) (fun c6 => ?_) (fun c6 => ?_)
        · have h := h.1 c6
          refine q_iload dX12_copy_42 rfl ?_
          refine q_if_lt (tgt := 91) dX12_copy_44 (by decide) (fun c7 => ?_) (fun c7 => ?_)
          · have h := h.1 c7
            refine q_ldcw dX12_copy_91 ct_RX12_291 ?_
            exact q_iret .int rfl rfl dX12_copy_94 h
          · have h := h.2 c7
            refine q_iload_n dX12_copy_47 rfl ?_
            refine q_if_lt (tgt := 91) dX12_copy_48 (by decide) (fun c8 => ?_) (fun c8 => ?_)
            · have h := h.1 c8
              refine q_ldcw dX12_copy_91 ct_RX12_291 ?_
              exact q_iret .int rfl rfl dX12_copy_94 h
            · have h := h.2 c8
              refine q_iload dX12_copy_51 rfl ?_
              refine q_if_lt (tgt := 91) dX12_copy_53 (by decide) (fun c9 => ?_) (fun c9 => ?_)
              · have h := h.1 c9
                refine q_ldcw dX12_copy_91 ct_RX12_291 ?_
                exact q_iret .int rfl rfl dX12_copy_94 h
              · have h := h.2 c9
                refine q_iload_n dX12_copy_56 rfl ?_
                refine q_i2l dX12_copy_57 ?_
                refine q_iload dX12_copy_58 rfl ?_
                refine q_i2l dX12_copy_60 ?_
                refine q_ladd dX12_copy_61 ?_
                refine q_aload_n dX12_copy_62 rfl ?_
                refine q_getR dX12_copy_63 fF_RX12_22 fl_168_7 ?_
                refine q_iload_n dX12_copy_66 rfl ?_
                refine q_ialdX (v := (σ 173 p1.toNatClampNeg)) dX12_copy_67 ar_173 hi3 rfl ?_
                refine q_i2l dX12_copy_68 ?_
                refine q_lcmp dX12_copy_69 ?_
                refine q_if_gt (tgt := 91) dX12_copy_70 (by decide) (fun c10 => ?_) (fun c10 => ?_)
                · have h := h.1 c10
                  refine q_ldcw dX12_copy_91 ct_RX12_291 ?_
                  exact q_iret .int rfl rfl dX12_copy_94 h
                · have h := h.2 c10
                  refine q_iload dX12_copy_73 rfl ?_
                  refine q_i2l dX12_copy_75 ?_
                  refine q_iload dX12_copy_76 rfl ?_
                  refine q_i2l dX12_copy_78 ?_
                  refine q_ladd dX12_copy_79 ?_
                  refine q_aload_n dX12_copy_80 rfl ?_
                  refine q_getR dX12_copy_81 fF_RX12_22 fl_168_7 ?_
                  refine q_iload_n dX12_copy_84 rfl ?_
                  refine q_ialdX (v := (σ 173 p3.toNatClampNeg)) dX12_copy_85 ar_173 hi5 rfl ?_
                  refine q_i2l dX12_copy_86 ?_
                  refine q_lcmp dX12_copy_87 ?_
                  refine q_if_le (tgt := 95) dX12_copy_88 (by decide) (fun c11 => ?_) (fun c11 => ?_)
                  · have h := h.1 c11
                    refine q_iconst (v := 0) dX12_copy_95 (by decide) ?_
                    refine q_istore (L' := [some (.ref (g.2.1 168)), some (.int p1), some (.int p2), some (.int p3), some (.int p4), some (.int p5), some (.int 0)]) dX12_copy_96 (by decide) rfl rfl ?_
                    exact h
                  · have h := h.2 c11
                    refine q_ldcw dX12_copy_91 ct_RX12_291 ?_
                    exact q_iret .int rfl rfl dX12_copy_94 h
        · have h := h.2 c6
          refine q_ldc dX12_copy_39 ct_RX12_58 ?_
          exact q_iret .int rfl rfl dX12_copy_41 h
    · have h := h.2 c2
      refine q_if_ne (tgt := 21) dX12_copy_15 (by decide) (fun c => absurd rfl c) (fun _ => ?_)
      refine q_ldc dX12_copy_18 ct_RX12_57 ?_
      exact q_iret .int rfl rfl dX12_copy_20 h
  · have h := h.2 c1
    refine q_if_eq (tgt := 18) dX12_copy_6 (by decide) (fun _ => ?_) (fun c => absurd (by decide) c)
    refine q_ldc dX12_copy_18 ct_RX12_57 ?_
    exact q_iret .int rfl rfl dX12_copy_20 h

theorem s_X12_copy_98 (g : vt_GT) (σ : vt_Sg) (P : Option Value → vt_Sg → Prop) (x1 : Int32) (x2 : Int32) (x3 : Int32) (x4 : Int32) (x5 : Int32) (x6 : Int32)
  (h : (x5 ≤ x6 → TT g (vt_R 1) 0 0 D_X12_copy none 135 [some (.ref (g.2.1 168)), some (.int x1), some (.int x2), some (.int x3), some (.int x4), some (.int x5), some (.int 0)] [] σ P) ∧ (¬ x5 ≤ x6 → vp_in (((16 * x1) + x2) + x6) 32 ∧ (vp_in x6 16 ∧ (TT g (vt_R 1) 0 0 D_X12_copy none 98 [some (.ref (g.2.1 168)), some (.int x1), some (.int x2), some (.int x3), some (.int x4), some (.int x5), some (.int (x6 + 1))] [] (su σ 181 (upd (σ 181) x6.toNatClampNeg (σ 174 (((16 * x1) + x2) + x6).toNatClampNeg))) P)))) :
  TT g (vt_R 1) 0 0 D_X12_copy none 98 [some (.ref (g.2.1 168)), some (.int x1), some (.int x2), some (.int x3), some (.int x4), some (.int x5), some (.int x6)] [] σ P := by
  refine q_iload dX12_copy_98 rfl ?_
  refine q_iload dX12_copy_100 rfl ?_
  refine q_icmp_ge (tgt := 132) dX12_copy_102 (by decide) (fun c1 => ?_) (fun c1 => ?_)
  · have h := h.1 c1
    refine q_iconst (v := 0) dX12_copy_132 (by decide) ?_
    refine q_istore (L' := [some (.ref (g.2.1 168)), some (.int x1), some (.int x2), some (.int x3), some (.int x4), some (.int x5), some (.int 0)]) dX12_copy_133 (by decide) rfl rfl ?_
    exact h
  · have h := h.2 c1
    refine q_aload_n dX12_copy_105 rfl ?_
    refine q_getR dX12_copy_106 fF_RX12_46 fl_168_27 ?_
    refine q_iload dX12_copy_109 rfl ?_
    refine q_aload_n dX12_copy_111 rfl ?_
    refine q_getR dX12_copy_112 fF_RX12_25 fl_168_8 ?_
    refine q_bipush (v := 16) dX12_copy_115 (by decide) ?_
    refine q_iload_n dX12_copy_117 rfl ?_
    refine q_imul dX12_copy_118 ?_
    refine q_iload_n dX12_copy_119 rfl ?_
    refine q_iadd dX12_copy_120 ?_
    refine q_iload dX12_copy_121 rfl ?_
    refine q_iadd dX12_copy_123 ?_
    obtain ⟨hi2, h⟩ := h
    refine q_ialdX (v := (σ 174 (((16 * x1) + x2) + x6).toNatClampNeg)) dX12_copy_124 ar_174 hi2 rfl ?_
    obtain ⟨hi3, h⟩ := h
    refine q_iastX (F := upd (σ 181) x6.toNatClampNeg (σ 174 (((16 * x1) + x2) + x6).toNatClampNeg)) dX12_copy_125 ar_181 hi3 rfl ?_
    refine q_iinc (L' := [some (.ref (g.2.1 168)), some (.int x1), some (.int x2), some (.int x3), some (.int x4), some (.int x5), some (.int (x6 + 1))]) dX12_copy_126 rfl (by decide) rfl rfl ?_
    refine q_goto (tgt := 98) dX12_copy_129 (by decide) ?_
    exact h

theorem s_X12_copy_135 (g : vt_GT) (σ : vt_Sg) (P : Option Value → vt_Sg → Prop) (x1 : Int32) (x2 : Int32) (x3 : Int32) (x4 : Int32) (x5 : Int32) (x6 : Int32)
  (h : (x5 ≤ x6 → P (some (.int x5)) σ) ∧ (¬ x5 ≤ x6 → vp_in x6 16 ∧ (vp_in (((16 * x3) + x4) + x6) 32 ∧ (TT g (vt_R 1) 0 0 D_X12_copy none 135 [some (.ref (g.2.1 168)), some (.int x1), some (.int x2), some (.int x3), some (.int x4), some (.int x5), some (.int (x6 + 1))] [] (su σ 174 (upd (σ 174) ((((16 * x3) + x4) + x6).toNatClampNeg) (σ 181 x6.toNatClampNeg))) P)))) :
  TT g (vt_R 1) 0 0 D_X12_copy none 135 [some (.ref (g.2.1 168)), some (.int x1), some (.int x2), some (.int x3), some (.int x4), some (.int x5), some (.int x6)] [] σ P := by
  refine q_iload dX12_copy_135 rfl ?_
  refine q_iload dX12_copy_137 rfl ?_
  refine q_icmp_ge (tgt := 170) dX12_copy_139 (by decide) (fun c1 => ?_) (fun c1 => ?_)
  · have h := h.1 c1
    refine q_iload dX12_copy_170 rfl ?_
    exact q_iret .int rfl rfl dX12_copy_172 h
  · have h := h.2 c1
    refine q_aload_n dX12_copy_142 rfl ?_
    refine q_getR dX12_copy_143 fF_RX12_25 fl_168_8 ?_
    refine q_bipush (v := 16) dX12_copy_146 (by decide) ?_
    refine q_iload_n dX12_copy_148 rfl ?_
    refine q_imul dX12_copy_149 ?_
    refine q_iload dX12_copy_150 rfl ?_
    refine q_iadd dX12_copy_152 ?_
    refine q_iload dX12_copy_153 rfl ?_
    refine q_iadd dX12_copy_155 ?_
    refine q_aload_n dX12_copy_156 rfl ?_
    refine q_getR dX12_copy_157 fF_RX12_46 fl_168_27 ?_
    refine q_iload dX12_copy_160 rfl ?_
    obtain ⟨hi2, h⟩ := h
    refine q_ialdX (v := (σ 181 x6.toNatClampNeg)) dX12_copy_162 ar_181 hi2 rfl ?_
    obtain ⟨hi3, h⟩ := h
    refine q_iastX (F := upd (σ 174) ((((16 * x3) + x4) + x6).toNatClampNeg) (σ 181 x6.toNatClampNeg)) dX12_copy_163 ar_174 hi3 rfl ?_
    refine q_iinc (L' := [some (.ref (g.2.1 168)), some (.int x1), some (.int x2), some (.int x3), some (.int x4), some (.int x5), some (.int (x6 + 1))]) dX12_copy_164 rfl (by decide) rfl rfl ?_
    refine q_goto (tgt := 135) dX12_copy_167 (by decide) ?_
    exact h

theorem s_X12_count_0 (g : vt_GT) (σ : vt_Sg) (P : Option Value → vt_Sg → Prop) (p1 : Int32)
  (h : (p1 = 0 → P (some (.int (σ 169 1))) σ) ∧ (¬ p1 = 0 → (p1 = 1 → P (some (.int (σ 169 2))) σ) ∧ (¬ p1 = 1 → (p1 = 2 → vt_Mv g 1 D_X12_findStands [.ref (g.2.1 168), .int (σ 169 0)] σ (fun σ1 => TT g (vt_R 2) 0 0 D_X12_count none 82 [some (.ref (g.2.1 168)), some (.int p1), some (.int 0), some (.int 0)] [] σ1 P)) ∧ (¬ p1 = 2 → (p1 = 3 → P (some (.int (σ 169 4))) σ) ∧ (¬ p1 = 3 → (p1 = 4 → TT g (vt_R 2) 0 0 D_X12_count none 122 [some (.ref (g.2.1 168)), some (.int p1), some (.int 0), some (.int 0)] [] σ P) ∧ (¬ p1 = 4 → (p1 = 5 → TT g (vt_R 2) 0 0 D_X12_count none 158 [some (.ref (g.2.1 168)), some (.int p1), some (.int 0), some (.int 0)] [] σ P) ∧ (¬ p1 = 5 → (p1 = 6 → P (some (.int (σ 169 3))) σ) ∧ (¬ p1 = 6 → (p1 = 7 → P (some (.int (σ 168 6))) σ) ∧ (¬ p1 = 7 → (p1 = 8 → P (some (.int (σ 168 4))) σ) ∧ (¬ p1 = 8 → (p1 = 9 → P (some (.int (σ 169 0))) σ) ∧ (¬ p1 = 9 → P (some (.int (-1000000001))) σ))))))))))) :
  TT g (vt_R 2) 0 0 D_X12_count none 0 [some (.ref (g.2.1 168)), some (.int p1), none, none] [] σ P := by
  refine q_iconst (v := 0) dX12_count_0 (by decide) ?_
  refine q_istore_n (L' := [some (.ref (g.2.1 168)), some (.int p1), some (.int 0), none]) dX12_count_1 (by decide) rfl rfl ?_
  refine q_iload_n dX12_count_2 rfl ?_
  by_cases n3_0 : p1 = 0
  · have h := h.1 n3_0
    refine q_tabE (kk := 0) n3_0 (tgt := 56) (off := 53) dX12_count_3 (by decide) (by decide) rfl (by decide) ?_
    refine q_aload_n dX12_count_56 rfl ?_
    refine q_getR dX12_count_57 fF_RX12_9 fl_168_0 ?_
    refine q_iconst (v := 1) dX12_count_60 (by decide) ?_
    refine q_ialdX (v := (σ 169 1)) dX12_count_61 ar_169 (vt_inl rfl) rfl ?_
    exact q_iret .int rfl rfl dX12_count_62 h
  · have h := h.2 n3_0
    by_cases n3_1 : p1 = 1
    · have h := h.1 n3_1
      refine q_tabE (kk := 1) n3_1 (tgt := 63) (off := 60) dX12_count_3 (by decide) (by decide) rfl (by decide) ?_
      refine q_aload_n dX12_count_63 rfl ?_
      refine q_getR dX12_count_64 fF_RX12_9 fl_168_0 ?_
      refine q_iconst (v := 2) dX12_count_67 (by decide) ?_
      refine q_ialdX (v := (σ 169 2)) dX12_count_68 ar_169 (vt_inl rfl) rfl ?_
      exact q_iret .int rfl rfl dX12_count_69 h
    · have h := h.2 n3_1
      by_cases n3_2 : p1 = 2
      · have h := h.1 n3_2
        refine q_tabE (kk := 2) n3_2 (tgt := 70) (off := 67) dX12_count_3 (by decide) (by decide) rfl (by decide) ?_
        refine q_aload_n dX12_count_70 rfl ?_
        refine q_aload_n dX12_count_71 rfl ?_
        refine q_getR dX12_count_72 fF_RX12_9 fl_168_0 ?_
        refine q_iconst (v := 0) dX12_count_75 (by decide) ?_
        refine q_ialdX (v := (σ 169 0)) dX12_count_76 ar_169 (vt_inl rfl) rfl ?_
        refine q_cV (d' := 1) [.int (σ 169 0)] [] dX12_count_77 ok_X12_findStands mk_RX12_72 rc_168 rfl (Nat.le_of_ble_eq_true rfl) (by first | decide | omega) h (fun v σ1 h => ?_)
        obtain ⟨rfl, h⟩ := h
        refine q_iconst (v := 0) dX12_count_80 (by decide) ?_
        refine q_istore_n (L' := [some (.ref (g.2.1 168)), some (.int p1), some (.int 0), some (.int 0)]) dX12_count_81 (by decide) rfl rfl ?_
        exact h
      · have h := h.2 n3_2
        by_cases n3_3 : p1 = 3
        · have h := h.1 n3_3
          refine q_tabE (kk := 3) n3_3 (tgt := 113) (off := 110) dX12_count_3 (by decide) (by decide) rfl (by decide) ?_
          refine q_aload_n dX12_count_113 rfl ?_
          refine q_getR dX12_count_114 fF_RX12_9 fl_168_0 ?_
          refine q_iconst (v := 4) dX12_count_117 (by decide) ?_
          refine q_ialdX (v := (σ 169 4)) dX12_count_118 ar_169 (vt_inl rfl) rfl ?_
          exact q_iret .int rfl rfl dX12_count_119 h
        · have h := h.2 n3_3
          by_cases n3_4 : p1 = 4
          · have h := h.1 n3_4
            refine q_tabE (kk := 4) n3_4 (tgt := 120) (off := 117) dX12_count_3 (by decide) (by decide) rfl (by decide) ?_
            refine q_iconst (v := 0) dX12_count_120 (by decide) ?_
            refine q_istore_n (L' := [some (.ref (g.2.1 168)), some (.int p1), some (.int 0), some (.int 0)]) dX12_count_121 (by decide) rfl rfl ?_
            exact h
          · have h := h.2 n3_4
            by_cases n3_5 : p1 = 5
            · have h := h.1 n3_5
              refine q_tabE (kk := 5) n3_5 (tgt := 156) (off := 153) dX12_count_3 (by decide) (by decide) rfl (by decide) ?_
              refine q_iconst (v := 0) dX12_count_156 (by decide) ?_
              refine q_istore_n (L' := [some (.ref (g.2.1 168)), some (.int p1), some (.int 0), some (.int 0)]) dX12_count_157 (by decide) rfl rfl ?_
              exact h
            · have h := h.2 n3_5
              by_cases n3_6 : p1 = 6
              · have h := h.1 n3_6
                refine q_tabE (kk := 6) n3_6 (tgt := 192) (off := 189) dX12_count_3 (by decide) (by decide) rfl (by decide) ?_
                refine q_aload_n dX12_count_192 rfl ?_
                refine q_getR dX12_count_193 fF_RX12_9 fl_168_0 ?_
                refine q_iconst (v := 3) dX12_count_196 (by decide) ?_
                refine q_ialdX (v := (σ 169 3)) dX12_count_197 ar_169 (vt_inl rfl) rfl ?_
                exact q_iret .int rfl rfl dX12_count_198 h
              · have h := h.2 n3_6
                by_cases n3_7 : p1 = 7
                · have h := h.1 n3_7
                  refine q_tabE (kk := 7) n3_7 (tgt := 199) (off := 196) dX12_count_3 (by decide) (by decide) rfl (by decide) ?_
                  refine q_aload_n dX12_count_199 rfl ?_
                  refine q_getX (x := (σ 168 6)) dX12_count_200 fF_RX12_284 fl_168_6 rfl ?_
                  exact q_iret .int rfl rfl dX12_count_203 h
                · have h := h.2 n3_7
                  by_cases n3_8 : p1 = 8
                  · have h := h.1 n3_8
                    refine q_tabE (kk := 8) n3_8 (tgt := 204) (off := 201) dX12_count_3 (by decide) (by decide) rfl (by decide) ?_
                    refine q_aload_n dX12_count_204 rfl ?_
                    refine q_getX (x := (σ 168 4)) dX12_count_205 fF_RX12_129 fl_168_4 rfl ?_
                    exact q_iret .int rfl rfl dX12_count_208 h
                  · have h := h.2 n3_8
                    by_cases n3_9 : p1 = 9
                    · have h := h.1 n3_9
                      refine q_tabE (kk := 9) n3_9 (tgt := 209) (off := 206) dX12_count_3 (by decide) (by decide) rfl (by decide) ?_
                      refine q_aload_n dX12_count_209 rfl ?_
                      refine q_getR dX12_count_210 fF_RX12_9 fl_168_0 ?_
                      refine q_iconst (v := 0) dX12_count_213 (by decide) ?_
                      refine q_ialdX (v := (σ 169 0)) dX12_count_214 ar_169 (vt_inl rfl) rfl ?_
                      exact q_iret .int rfl rfl dX12_count_215 h
                    · have h := h.2 n3_9
                      refine q_tabOut (tgt := 216) dX12_count_3 (by have z0 := lv_neT (a := 0) n3_0 (by decide); have z1 := lv_neT (a := 1) n3_1 (by decide); have z2 := lv_neT (a := 2) n3_2 (by decide); have z3 := lv_neT (a := 3) n3_3 (by decide); have z4 := lv_neT (a := 4) n3_4 (by decide); have z5 := lv_neT (a := 5) n3_5 (by decide); have z6 := lv_neT (a := 6) n3_6 (by decide); have z7 := lv_neT (a := 7) n3_7 (by decide); have z8 := lv_neT (a := 8) n3_8 (by decide); have z9 := lv_neT (a := 9) n3_9 (by decide); omega) (by decide) ?_
                      refine q_ldc dX12_count_216 ct_RX12_57 ?_
                      exact q_iret .int rfl rfl dX12_count_218 h

theorem s_X12_count_158 (g : vt_GT) (σ : vt_Sg) (P : Option Value → vt_Sg → Prop) (x1 : Int32) (x2 : Int32) (x3 : Int32)
  (h : ((σ 169 2) ≤ x3 → P (some (.int x2)) σ) ∧ (¬ (σ 169 2) ≤ x3 → vp_in (30 + 8 * x3 + 7) 2220 ∧ (((0 < (σ 169 (30 + 8 * x3 + 7).toNatClampNeg)) → TT g (vt_R 2) 0 0 D_X12_count none 158 [some (.ref (g.2.1 168)), some (.int x1), some (.int (x2 + 1)), some (.int (x3 + 1))] [] σ P) ∧ (¬ (0 < (σ 169 (30 + 8 * x3 + 7).toNatClampNeg)) → TT g (vt_R 2) 0 0 D_X12_count none 158 [some (.ref (g.2.1 168)), some (.int x1), some (.int (x2 + 0)), some (.int (x3 + 1))] [] σ P)))) :
  TT g (vt_R 2) 0 0 D_X12_count none 158 [some (.ref (g.2.1 168)), some (.int x1), some (.int x2), some (.int x3)] [] σ P := by
  refine q_iload_n dX12_count_158 rfl ?_
  refine q_aload_n dX12_count_159 rfl ?_
  refine q_getR dX12_count_160 fF_RX12_9 fl_168_0 ?_
  refine q_iconst (v := 2) dX12_count_163 (by decide) ?_
  refine q_ialdX (v := (σ 169 2)) dX12_count_164 ar_169 (vt_inl rfl) rfl ?_
  refine q_icmp_ge (tgt := 190) dX12_count_165 (by decide) (fun c1 => ?_) (fun c1 => ?_)
  · have h := h.1 c1
    refine q_iload_n dX12_count_190 rfl ?_
    exact q_iret .int rfl rfl dX12_count_191 h
  · have h := h.2 c1
    refine q_iload_n dX12_count_168 rfl ?_
    refine q_aload_n dX12_count_169 rfl ?_
    refine q_iload_n dX12_count_170 rfl ?_
    obtain ⟨hp2, h⟩ := h
    refine q_cVb (C := 0 < (σ 169 (30 + 8 * x3 + 7).toNatClampNeg)) (d' := 1) [.int x3] [.int x2] dX12_count_171 ok_X12_hasLease mk_RX12_236 rc_168 rfl (Nat.le_of_ble_eq_true rfl) (by first | decide | omega) (fun Φ h9 => c_X12_hasLease (σ := σ) hp2 Φ h9) (fun c3 => ?_) (fun c3 => ?_)
    · have h := h.1 c3
      refine q_if_eq (tgt := 181) dX12_count_174 (by decide) (fun c => absurd c (by decide)) (fun _ => ?_)
      refine q_iconst (v := 1) dX12_count_177 (by decide) ?_
      refine q_goto (tgt := 182) dX12_count_178 (by decide) ?_
      refine q_iadd dX12_count_182 ?_
      refine q_istore_n (L' := [some (.ref (g.2.1 168)), some (.int x1), some (.int (x2 + 1)), some (.int x3)]) dX12_count_183 (by decide) rfl rfl ?_
      refine q_iinc (L' := [some (.ref (g.2.1 168)), some (.int x1), some (.int (x2 + 1)), some (.int (x3 + 1))]) dX12_count_184 rfl (by decide) rfl rfl ?_
      refine q_goto (tgt := 158) dX12_count_187 (by decide) ?_
      exact h
    · have h := h.2 c3
      refine q_if_eq (tgt := 181) dX12_count_174 (by decide) (fun _ => ?_) (fun c => absurd (by decide) c)
      refine q_iconst (v := 0) dX12_count_181 (by decide) ?_
      refine q_iadd dX12_count_182 ?_
      refine q_istore_n (L' := [some (.ref (g.2.1 168)), some (.int x1), some (.int (x2 + 0)), some (.int x3)]) dX12_count_183 (by decide) rfl rfl ?_
      refine q_iinc (L' := [some (.ref (g.2.1 168)), some (.int x1), some (.int (x2 + 0)), some (.int (x3 + 1))]) dX12_count_184 rfl (by decide) rfl rfl ?_
      refine q_goto (tgt := 158) dX12_count_187 (by decide) ?_
      exact h

theorem s_X12_count_122 (g : vt_GT) (σ : vt_Sg) (P : Option Value → vt_Sg → Prop) (x1 : Int32) (x2 : Int32) (x3 : Int32)
  (h : ((σ 169 4) ≤ x3 → P (some (.int x2)) σ) ∧ (¬ (σ 169 4) ≤ x3 → vp_in (340 + 2 * x3 + 1) 2220 ∧ ((0 ≤ ((σ 169 (340 + 2 * x3 + 1).toNatClampNeg) / 175692 - 1) → TT g (vt_R 2) 0 0 D_X12_count none 122 [some (.ref (g.2.1 168)), some (.int x1), some (.int (x2 + 1)), some (.int (x3 + 1))] [] σ P) ∧ (¬ 0 ≤ ((σ 169 (340 + 2 * x3 + 1).toNatClampNeg) / 175692 - 1) → TT g (vt_R 2) 0 0 D_X12_count none 122 [some (.ref (g.2.1 168)), some (.int x1), some (.int (x2 + 0)), some (.int (x3 + 1))] [] σ P)))) :
  TT g (vt_R 2) 0 0 D_X12_count none 122 [some (.ref (g.2.1 168)), some (.int x1), some (.int x2), some (.int x3)] [] σ P := by
  refine q_iload_n dX12_count_122 rfl ?_
  refine q_aload_n dX12_count_123 rfl ?_
  refine q_getR dX12_count_124 fF_RX12_9 fl_168_0 ?_
  refine q_iconst (v := 4) dX12_count_127 (by decide) ?_
  refine q_ialdX (v := (σ 169 4)) dX12_count_128 ar_169 (vt_inl rfl) rfl ?_
  refine q_icmp_ge (tgt := 154) dX12_count_129 (by decide) (fun c1 => ?_) (fun c1 => ?_)
  · have h := h.1 c1
    refine q_iload_n dX12_count_154 rfl ?_
    exact q_iret .int rfl rfl dX12_count_155 h
  · have h := h.2 c1
    refine q_iload_n dX12_count_132 rfl ?_
    refine q_aload_n dX12_count_133 rfl ?_
    refine q_iload_n dX12_count_134 rfl ?_
    obtain ⟨hp2, h⟩ := h
    refine q_cVi (e := ((σ 169 (340 + 2 * x3 + 1).toNatClampNeg) / 175692 - 1)) (d' := 0) [.int x3] [.int x2] dX12_count_135 ok_X12_gone mk_RX12_121 rc_168 rfl (Nat.le_of_ble_eq_true rfl) (by first | decide | omega) (fun Φ h9 => c_X12_gone (σ := σ) hp2 Φ h9) ?_
    refine q_if_ge (tgt := 145) dX12_count_138 (by decide) (fun c3 => ?_) (fun c3 => ?_)
    · have h := h.1 c3
      refine q_iconst (v := 1) dX12_count_145 (by decide) ?_
      refine q_iadd dX12_count_146 ?_
      refine q_istore_n (L' := [some (.ref (g.2.1 168)), some (.int x1), some (.int (x2 + 1)), some (.int x3)]) dX12_count_147 (by decide) rfl rfl ?_
      refine q_iinc (L' := [some (.ref (g.2.1 168)), some (.int x1), some (.int (x2 + 1)), some (.int (x3 + 1))]) dX12_count_148 rfl (by decide) rfl rfl ?_
      refine q_goto (tgt := 122) dX12_count_151 (by decide) ?_
      exact h
    · have h := h.2 c3
      refine q_iconst (v := 0) dX12_count_141 (by decide) ?_
      refine q_goto (tgt := 146) dX12_count_142 (by decide) ?_
      refine q_iadd dX12_count_146 ?_
      refine q_istore_n (L' := [some (.ref (g.2.1 168)), some (.int x1), some (.int (x2 + 0)), some (.int x3)]) dX12_count_147 (by decide) rfl rfl ?_
      refine q_iinc (L' := [some (.ref (g.2.1 168)), some (.int x1), some (.int (x2 + 0)), some (.int (x3 + 1))]) dX12_count_148 rfl (by decide) rfl rfl ?_
      refine q_goto (tgt := 122) dX12_count_151 (by decide) ?_
      exact h

theorem s_X12_count_82 (g : vt_GT) (σ : vt_Sg) (P : Option Value → vt_Sg → Prop) (x1 : Int32) (x2 : Int32) (x3 : Int32)
  (h : (12 ≤ x3 → P (some (.int x2)) σ) ∧ (¬ 12 ≤ x3 → vp_in x3 12 ∧ ((0 ≤ (σ 175 x3.toNatClampNeg) → TT g (vt_R 2) 0 0 D_X12_count none 82 [some (.ref (g.2.1 168)), some (.int x1), some (.int (x2 + 1)), some (.int (x3 + 1))] [] σ P) ∧ (¬ 0 ≤ (σ 175 x3.toNatClampNeg) → TT g (vt_R 2) 0 0 D_X12_count none 82 [some (.ref (g.2.1 168)), some (.int x1), some (.int (x2 + 0)), some (.int (x3 + 1))] [] σ P)))) :
  TT g (vt_R 2) 0 0 D_X12_count none 82 [some (.ref (g.2.1 168)), some (.int x1), some (.int x2), some (.int x3)] [] σ P := by
  refine q_iload_n dX12_count_82 rfl ?_
  refine q_bipush (v := 12) dX12_count_83 (by decide) ?_
  refine q_icmp_ge (tgt := 111) dX12_count_85 (by decide) (fun c1 => ?_) (fun c1 => ?_)
  · have h := h.1 c1
    refine q_iload_n dX12_count_111 rfl ?_
    exact q_iret .int rfl rfl dX12_count_112 h
  · have h := h.2 c1
    refine q_iload_n dX12_count_88 rfl ?_
    refine q_aload_n dX12_count_89 rfl ?_
    refine q_getR dX12_count_90 fF_RX12_28 fl_168_9 ?_
    refine q_iload_n dX12_count_93 rfl ?_
    obtain ⟨hi2, h⟩ := h
    refine q_ialdX (v := (σ 175 x3.toNatClampNeg)) dX12_count_94 ar_175 hi2 rfl ?_
    refine q_if_ge (tgt := 102) dX12_count_95 (by decide) (fun c3 => ?_) (fun c3 => ?_)
    · have h := h.1 c3
      refine q_iconst (v := 1) dX12_count_102 (by decide) ?_
      refine q_iadd dX12_count_103 ?_
      refine q_istore_n (L' := [some (.ref (g.2.1 168)), some (.int x1), some (.int (x2 + 1)), some (.int x3)]) dX12_count_104 (by decide) rfl rfl ?_
      refine q_iinc (L' := [some (.ref (g.2.1 168)), some (.int x1), some (.int (x2 + 1)), some (.int (x3 + 1))]) dX12_count_105 rfl (by decide) rfl rfl ?_
      refine q_goto (tgt := 82) dX12_count_108 (by decide) ?_
      exact h
    · have h := h.2 c3
      refine q_iconst (v := 0) dX12_count_98 (by decide) ?_
      refine q_goto (tgt := 103) dX12_count_99 (by decide) ?_
      refine q_iadd dX12_count_103 ?_
      refine q_istore_n (L' := [some (.ref (g.2.1 168)), some (.int x1), some (.int (x2 + 0)), some (.int x3)]) dX12_count_104 (by decide) rfl rfl ?_
      refine q_iinc (L' := [some (.ref (g.2.1 168)), some (.int x1), some (.int (x2 + 0)), some (.int (x3 + 1))]) dX12_count_105 rfl (by decide) rfl rfl ?_
      refine q_goto (tgt := 82) dX12_count_108 (by decide) ?_
      exact h

