theorem s_X11_feet_0 (g : vt_GT) (σ : vt_Sg) (P : Option Value → vt_Sg → Prop) (p1 : Int32) (p2 : Int32)
  (h : ((¬ p1 < 0 ∧ ¬ 11 < p1) → ((¬ p2 < 10 ∧ ¬ 999 < p2) → vp_in p1 12 ∧ (P (some (.int (σ 2 p1.toNatClampNeg))) (su σ 2 (upd (σ 2) p1.toNatClampNeg p2)))) ∧ (¬ (¬ p2 < 10 ∧ ¬ 999 < p2) → P (some (.int (-1000000001))) σ)) ∧ (¬ (¬ p1 < 0 ∧ ¬ 11 < p1) → P (some (.int (-1000000001))) σ)) :
  TT g (vt_R 2) 0 0 D_X11_feet none 0 [some (.ref (g.2.1 0)), some (.int p1), some (.int p2), none] [] σ P := by
  refine q_iload_n dX11_feet_0 rfl ?_
  refine q_cSb (C := ¬ p1 < 0 ∧ ¬ 11 < p1) (d' := 1) [.int p1] [] dX11_feet_1 ok_X11_isPlace mk_RX11_63 rfl (Nat.le_of_ble_eq_true rfl) (by first | decide | omega) (fun Φ h9 => c_X11_isPlace (σ := σ) Φ h9) (fun c1 => ?_) (fun c1 => ?_)
  · have h := h.1 c1
    refine q_if_eq (tgt := 14) dX11_feet_4 (by decide) (fun c => absurd c (by decide)) (fun _ => ?_)
    refine q_iload_n dX11_feet_7 rfl ?_
    refine q_cSb (C := ¬ p2 < 10 ∧ ¬ 999 < p2) (d' := 1) [.int p2] [] dX11_feet_8 ok_X11_isFeet mk_RX11_67 rfl (Nat.le_of_ble_eq_true rfl) (by first | decide | omega) (fun Φ h9 => c_X11_isFeet (σ := σ) Φ h9) (fun c2 => ?_) (fun c2 => ?_)
    · have h := h.1 c2
      refine q_if_ne (tgt := 17) dX11_feet_11 (by decide) (fun _ => ?_) (fun c => absurd c (by decide))
      refine q_aload_n dX11_feet_17 rfl ?_
      refine q_getR dX11_feet_18 fF_RX11_10 fl_0_0 ?_
      refine q_getR dX11_feet_21 fF_RX11_71 fl_1_0 ?_
      refine q_iload_n dX11_feet_24 rfl ?_
      obtain ⟨hi3, h⟩ := h
      refine q_ialdX (v := (σ 2 p1.toNatClampNeg)) dX11_feet_25 ar_2 hi3 rfl ?_
      refine q_istore_n (L' := [some (.ref (g.2.1 0)), some (.int p1), some (.int p2), some (.int (σ 2 p1.toNatClampNeg))]) dX11_feet_26 (by decide) rfl rfl ?_
      refine q_aload_n dX11_feet_27 rfl ?_
      refine q_getR dX11_feet_28 fF_RX11_10 fl_0_0 ?_
      refine q_getR dX11_feet_31 fF_RX11_71 fl_1_0 ?_
      refine q_iload_n dX11_feet_34 rfl ?_
      refine q_iload_n dX11_feet_35 rfl ?_
      refine q_iastX (F := upd (σ 2) p1.toNatClampNeg p2) dX11_feet_36 ar_2 hi3 rfl ?_
      refine q_iload_n dX11_feet_37 rfl ?_
      exact q_iret .int rfl rfl dX11_feet_38 h
    · have h := h.2 c2
      refine q_if_ne (tgt := 17) dX11_feet_11 (by decide) (fun c => absurd rfl c) (fun _ => ?_)
      refine q_ldc dX11_feet_14 ct_RX11_70 ?_
      exact q_iret .int rfl rfl dX11_feet_16 h
  · have h := h.2 c1
    refine q_if_eq (tgt := 14) dX11_feet_4 (by decide) (fun _ => ?_) (fun c => absurd (by decide) c)
    refine q_ldc dX11_feet_14 ct_RX11_70 ?_
    exact q_iret .int rfl rfl dX11_feet_16 h

theorem s_X11_lay_0 (g : vt_GT) (σ : vt_Sg) (P : Option Value → vt_Sg → Prop) (p1 : Int32)
  (h : ((p1 = 0 ∨ p1 = 1) → vp_in p1 2 ∧ (((σ 115 p1.toNatClampNeg = (-1)) → P (some (.int (-1000000011))) σ) ∧ (¬ (σ 115 p1.toNatClampNeg = (-1)) → TT g (vt_R 2) 0 0 D_X11_lay none 44 [some (.ref (g.2.1 0)), some (.int p1), some (.int 0), some (.int (if 12 < (σ 115 p1.toNatClampNeg) then 12 else (σ 115 p1.toNatClampNeg))), some (.int 0), none] [] σ P))) ∧ (¬ (p1 = 0 ∨ p1 = 1) → P (some (.int (-1000000001))) σ)) :
  TT g (vt_R 2) 0 0 D_X11_lay none 0 [some (.ref (g.2.1 0)), some (.int p1), none, none, none, none] [] σ P := by
  refine q_iload_n dX11_lay_0 rfl ?_
  refine q_cSb (C := p1 = 0 ∨ p1 = 1) (d' := 0) [.int p1] [] dX11_lay_1 ok_X9_isSheet mk_RX11_74 rfl (Nat.le_of_ble_eq_true rfl) (by first | decide | omega) (fun Φ h9 => c_X9_isSheet (σ := σ) Φ h9) (fun c1 => ?_) (fun c1 => ?_)
  · have h := h.1 c1
    refine q_if_ne (tgt := 10) dX11_lay_4 (by decide) (fun _ => ?_) (fun c => absurd c (by decide))
    refine q_aload_n dX11_lay_10 rfl ?_
    refine q_getR dX11_lay_11 fF_RX11_29 fl_0_4 ?_
    refine q_iload_n dX11_lay_14 rfl ?_
    obtain ⟨hp2, h⟩ := h
    refine q_cVb (C := σ 115 p1.toNatClampNeg = (-1)) (d' := 0) [.int p1] [] dX11_lay_15 ok_X9_isMissing mk_RX11_77 rc_111 rfl (Nat.le_of_ble_eq_true rfl) (by first | decide | omega) (fun Φ h9 => c_X9_isMissing (σ := σ) hp2 Φ h9) (fun c3 => ?_) (fun c3 => ?_)
    · have h := h.1 c3
      refine q_if_eq (tgt := 24) dX11_lay_18 (by decide) (fun c => absurd c (by decide)) (fun _ => ?_)
      refine q_ldc dX11_lay_21 ct_RX11_80 ?_
      exact q_iret .int rfl rfl dX11_lay_23 h
    · have h := h.2 c3
      refine q_if_eq (tgt := 24) dX11_lay_18 (by decide) (fun _ => ?_) (fun c => absurd (by decide) c)
      refine q_iconst (v := 0) dX11_lay_24 (by decide) ?_
      refine q_istore_n (L' := [some (.ref (g.2.1 0)), some (.int p1), some (.int 0), none, none, none]) dX11_lay_25 (by decide) rfl rfl ?_
      refine q_aload_n dX11_lay_26 rfl ?_
      refine q_getR dX11_lay_27 fF_RX11_29 fl_0_4 ?_
      refine q_getR dX11_lay_30 fF_RX11_81 fl_111_1 ?_
      refine q_iload_n dX11_lay_33 rfl ?_
      refine q_ialdX (v := (σ 115 p1.toNatClampNeg)) dX11_lay_34 ar_115 hp2 rfl ?_
      refine q_bipush (v := 12) dX11_lay_35 (by decide) ?_
      refine q_min dX11_lay_37 mk_RX11_84 sta_min ini_math cod_min (Nat.le_of_ble_eq_true rfl) (by first | decide | omega) ?_
      refine q_istore_n (L' := [some (.ref (g.2.1 0)), some (.int p1), some (.int 0), some (.int (if 12 < (σ 115 p1.toNatClampNeg) then 12 else (σ 115 p1.toNatClampNeg))), none, none]) dX11_lay_40 (by decide) rfl rfl ?_
      refine q_iconst (v := 0) dX11_lay_41 (by decide) ?_
      refine q_istore (L' := [some (.ref (g.2.1 0)), some (.int p1), some (.int 0), some (.int (if 12 < (σ 115 p1.toNatClampNeg) then 12 else (σ 115 p1.toNatClampNeg))), some (.int 0), none]) dX11_lay_42 (by decide) rfl rfl ?_
      exact h
  · have h := h.2 c1
    refine q_if_ne (tgt := 10) dX11_lay_4 (by decide) (fun c => absurd rfl c) (fun _ => ?_)
    refine q_ldc dX11_lay_7 ct_RX11_70 ?_
    exact q_iret .int rfl rfl dX11_lay_9 h

theorem s_X11_lay_44 (g : vt_GT) (σ : vt_Sg) (P : Option Value → vt_Sg → Prop) (x1 : Int32) (x2 : Int32) (x3 : Int32) (x4 : Int32)
  (h : (x3 ≤ x4 → P (some (.int x2)) σ) ∧ (¬ x3 ≤ x4 → vp_in x1 2 ∧ (vp_in x4 16 ∧ (((¬ ((σ (113 + x1.toNatClampNeg)) x4.toNatClampNeg) < 10 ∧ ¬ 999 < ((σ (113 + x1.toNatClampNeg)) x4.toNatClampNeg)) → vp_in x4 12 ∧ (TT g (vt_R 2) 0 0 D_X11_lay none 44 [some (.ref (g.2.1 0)), some (.int x1), some (.int (x2 + 1)), some (.int x3), some (.int (x4 + 1)), none] [] (su σ 2 (upd (σ 2) x4.toNatClampNeg ((σ (113 + x1.toNatClampNeg)) x4.toNatClampNeg))) P)) ∧ (¬ (¬ ((σ (113 + x1.toNatClampNeg)) x4.toNatClampNeg) < 10 ∧ ¬ 999 < ((σ (113 + x1.toNatClampNeg)) x4.toNatClampNeg)) → TT g (vt_R 2) 0 0 D_X11_lay none 44 [some (.ref (g.2.1 0)), some (.int x1), some (.int x2), some (.int x3), some (.int (x4 + 1)), none] [] σ P))))) :
  TT g (vt_R 2) 0 0 D_X11_lay none 44 [some (.ref (g.2.1 0)), some (.int x1), some (.int x2), some (.int x3), some (.int x4), none] [] σ P := by
  refine q_iload dX11_lay_44 rfl ?_
  refine q_iload_n dX11_lay_46 rfl ?_
  refine q_icmp_ge (tgt := 93) dX11_lay_47 (by decide) (fun c1 => ?_) (fun c1 => ?_)
  · have h := h.1 c1
    refine q_iload_n dX11_lay_93 rfl ?_
    exact q_iret .int rfl rfl dX11_lay_94 h
  · have h := h.2 c1
    refine q_aload_n dX11_lay_50 rfl ?_
    refine q_getR dX11_lay_51 fF_RX11_29 fl_0_4 ?_
    refine q_getR dX11_lay_54 fF_RX11_90 fl_111_0 ?_
    refine q_iload_n dX11_lay_57 rfl ?_
    obtain ⟨hi2, h⟩ := h
    refine q_aald dX11_lay_58 ar2_112 (by decide) hi2 ?_
    refine q_iload dX11_lay_59 rfl ?_
    obtain ⟨hi3, h⟩ := h
    refine q_saldX (v := ((σ (113 + x1.toNatClampNeg)) x4.toNatClampNeg)) dX11_lay_61 (rw_112 hi2) hi3 rfl ?_
    refine q_istore (L' := [some (.ref (g.2.1 0)), some (.int x1), some (.int x2), some (.int x3), some (.int x4), some (.int ((σ (113 + x1.toNatClampNeg)) x4.toNatClampNeg))]) dX11_lay_62 (by decide) rfl rfl ?_
    refine q_iload dX11_lay_64 rfl ?_
    refine q_cSb (C := ¬ ((σ (113 + x1.toNatClampNeg)) x4.toNatClampNeg) < 10 ∧ ¬ 999 < ((σ (113 + x1.toNatClampNeg)) x4.toNatClampNeg)) (d' := 1) [.int ((σ (113 + x1.toNatClampNeg)) x4.toNatClampNeg)] [] dX11_lay_66 ok_X11_isFeet mk_RX11_67 rfl (Nat.le_of_ble_eq_true rfl) (by first | decide | omega) (fun Φ h9 => c_X11_isFeet (σ := σ) Φ h9) (fun c4 => ?_) (fun c4 => ?_)
    · have h := h.1 c4
      refine q_if_eq (tgt := 87) dX11_lay_69 (by decide) (fun c => absurd c (by decide)) (fun _ => ?_)
      refine q_aload_n dX11_lay_72 rfl ?_
      refine q_getR dX11_lay_73 fF_RX11_10 fl_0_0 ?_
      refine q_getR dX11_lay_76 fF_RX11_71 fl_1_0 ?_
      refine q_iload dX11_lay_79 rfl ?_
      refine q_iload dX11_lay_81 rfl ?_
      obtain ⟨hi5, h⟩ := h
      refine q_iastX (F := upd (σ 2) x4.toNatClampNeg ((σ (113 + x1.toNatClampNeg)) x4.toNatClampNeg)) dX11_lay_83 ar_2 hi5 rfl ?_
      refine q_iinc (L' := [some (.ref (g.2.1 0)), some (.int x1), some (.int (x2 + 1)), some (.int x3), some (.int x4), some (.int ((σ (113 + x1.toNatClampNeg)) x4.toNatClampNeg))]) dX11_lay_84 rfl (by decide) rfl rfl ?_
      refine q_iinc (L' := [some (.ref (g.2.1 0)), some (.int x1), some (.int (x2 + 1)), some (.int x3), some (.int (x4 + 1)), some (.int ((σ (113 + x1.toNatClampNeg)) x4.toNatClampNeg))]) dX11_lay_87 rfl (by decide) rfl rfl ?_
      refine q_goto (tgt := 44) dX11_lay_90 (by decide) ?_
      exact q_wk (by simp [vt_le]) h
    · have h := h.2 c4
      refine q_if_eq (tgt := 87) dX11_lay_69 (by decide) (fun _ => ?_) (fun c => absurd (by decide) c)
      refine q_iinc (L' := [some (.ref (g.2.1 0)), some (.int x1), some (.int x2), some (.int x3), some (.int (x4 + 1)), some (.int ((σ (113 + x1.toNatClampNeg)) x4.toNatClampNeg))]) dX11_lay_87 rfl (by decide) rfl rfl ?_
      refine q_goto (tgt := 44) dX11_lay_90 (by decide) ?_
      exact q_wk (by simp [vt_le]) h

theorem s_X11_door_0 (g : vt_GT) (σ : vt_Sg) (P : Option Value → vt_Sg → Prop) (p1 : Int32) (p2 : Int32)
  (h : ((¬ p1 < 0 ∧ ¬ 11 < p1) → ((¬ p2 < 0 ∧ ¬ 9999 < p2) → ((σ 4 2) < 4 → vt_Mi g 0 D_X3_add [.ref (g.2.1 4), .int p1, .int p2] σ (fun r5 σ4 => P (some (.int r5)) σ4)) ∧ (¬ (σ 4 2) < 4 → P (some (.int (-1000000003))) σ)) ∧ (¬ (¬ p2 < 0 ∧ ¬ 9999 < p2) → P (some (.int (-1000000001))) σ)) ∧ (¬ (¬ p1 < 0 ∧ ¬ 11 < p1) → P (some (.int (-1000000001))) σ)) :
  TT g (vt_R 2) 0 0 D_X11_door none 0 [some (.ref (g.2.1 0)), some (.int p1), some (.int p2)] [] σ P := by
  refine q_iload_n dX11_door_0 rfl ?_
  refine q_cSb (C := ¬ p1 < 0 ∧ ¬ 11 < p1) (d' := 1) [.int p1] [] dX11_door_1 ok_X11_isPlace mk_RX11_63 rfl (Nat.le_of_ble_eq_true rfl) (by first | decide | omega) (fun Φ h9 => c_X11_isPlace (σ := σ) Φ h9) (fun c1 => ?_) (fun c1 => ?_)
  · have h := h.1 c1
    refine q_if_eq (tgt := 14) dX11_door_4 (by decide) (fun c => absurd c (by decide)) (fun _ => ?_)
    refine q_iload_n dX11_door_7 rfl ?_
    refine q_cSb (C := ¬ p2 < 0 ∧ ¬ 9999 < p2) (d' := 1) [.int p2] [] dX11_door_8 ok_X11_isPeople mk_RX11_94 rfl (Nat.le_of_ble_eq_true rfl) (by first | decide | omega) (fun Φ h9 => c_X11_isPeople (σ := σ) Φ h9) (fun c2 => ?_) (fun c2 => ?_)
    · have h := h.1 c2
      refine q_if_ne (tgt := 17) dX11_door_11 (by decide) (fun _ => ?_) (fun c => absurd c (by decide))
      refine q_aload_n dX11_door_17 rfl ?_
      refine q_getR dX11_door_18 fF_RX11_10 fl_0_0 ?_
      refine q_getR dX11_door_21 fF_RX11_97 fl_1_2 ?_
      refine q_getX (x := (σ 4 2)) dX11_door_24 fF_RX11_101 fl_4_2 rfl ?_
      refine q_iconst (v := 4) dX11_door_27 (by decide) ?_
      refine q_icmp_lt (tgt := 34) dX11_door_28 (by decide) (fun c3 => ?_) (fun c3 => ?_)
      · have h := h.1 c3
        refine q_aload_n dX11_door_34 rfl ?_
        refine q_getR dX11_door_35 fF_RX11_10 fl_0_0 ?_
        refine q_getR dX11_door_38 fF_RX11_97 fl_1_2 ?_
        refine q_iload_n dX11_door_41 rfl ?_
        refine q_iload_n dX11_door_42 rfl ?_
        refine q_cV (d' := 0) [.int p1, .int p2] [] dX11_door_43 ok_X3_add mk_RX11_108 rc_4 rfl (Nat.le_of_ble_eq_true rfl) (by first | decide | omega) h (fun v σ4 h => ?_)
        obtain ⟨r5, rfl, h⟩ := h
        exact q_iret .int rfl rfl dX11_door_46 h
      · have h := h.2 c3
        refine q_ldc dX11_door_31 ct_RX11_107 ?_
        exact q_iret .int rfl rfl dX11_door_33 h
    · have h := h.2 c2
      refine q_if_ne (tgt := 17) dX11_door_11 (by decide) (fun c => absurd rfl c) (fun _ => ?_)
      refine q_ldc dX11_door_14 ct_RX11_70 ?_
      exact q_iret .int rfl rfl dX11_door_16 h
  · have h := h.2 c1
    refine q_if_eq (tgt := 14) dX11_door_4 (by decide) (fun _ => ?_) (fun c => absurd (by decide) c)
    refine q_ldc dX11_door_14 ct_RX11_70 ?_
    exact q_iret .int rfl rfl dX11_door_16 h

theorem s_X11_people_0 (g : vt_GT) (σ : vt_Sg) (P : Option Value → vt_Sg → Prop) (p1 : Int32) (p2 : Int32)
  (h : ((¬ p1 < 0 ∧ ¬ (σ 4 2) ≤ p1) → ((¬ p2 < 0 ∧ ¬ 9999 < p2) → vp_in p1 4 ∧ (P (some (.int (σ 6 p1.toNatClampNeg))) (su σ 6 (upd (σ 6) p1.toNatClampNeg p2)))) ∧ (¬ (¬ p2 < 0 ∧ ¬ 9999 < p2) → P (some (.int (-1000000001))) σ)) ∧ (¬ (¬ p1 < 0 ∧ ¬ (σ 4 2) ≤ p1) → P (some (.int (-1000000001))) σ)) :
  TT g (vt_R 2) 0 0 D_X11_people none 0 [some (.ref (g.2.1 0)), some (.int p1), some (.int p2), none] [] σ P := by
  refine q_aload_n dX11_people_0 rfl ?_
  refine q_getR dX11_people_1 fF_RX11_10 fl_0_0 ?_
  refine q_getR dX11_people_4 fF_RX11_97 fl_1_2 ?_
  refine q_iload_n dX11_people_7 rfl ?_
  refine q_cVb (C := ¬ p1 < 0 ∧ ¬ (σ 4 2) ≤ p1) (d' := 0) [.int p1] [] dX11_people_8 ok_X3_has mk_RX11_111 rc_4 rfl (Nat.le_of_ble_eq_true rfl) (by first | decide | omega) (fun Φ h9 => c_X3_has (σ := σ) Φ h9) (fun c1 => ?_) (fun c1 => ?_)
  · have h := h.1 c1
    refine q_if_eq (tgt := 21) dX11_people_11 (by decide) (fun c => absurd c (by decide)) (fun _ => ?_)
    refine q_iload_n dX11_people_14 rfl ?_
    refine q_cSb (C := ¬ p2 < 0 ∧ ¬ 9999 < p2) (d' := 1) [.int p2] [] dX11_people_15 ok_X11_isPeople mk_RX11_94 rfl (Nat.le_of_ble_eq_true rfl) (by first | decide | omega) (fun Φ h9 => c_X11_isPeople (σ := σ) Φ h9) (fun c2 => ?_) (fun c2 => ?_)
    · have h := h.1 c2
      refine q_if_ne (tgt := 24) dX11_people_18 (by decide) (fun _ => ?_) (fun c => absurd c (by decide))
      refine q_aload_n dX11_people_24 rfl ?_
      refine q_getR dX11_people_25 fF_RX11_10 fl_0_0 ?_
      refine q_getR dX11_people_28 fF_RX11_97 fl_1_2 ?_
      refine q_getR dX11_people_31 fF_RX11_114 fl_4_1 ?_
      refine q_iload_n dX11_people_34 rfl ?_
      obtain ⟨hi3, h⟩ := h
      refine q_ialdX (v := (σ 6 p1.toNatClampNeg)) dX11_people_35 ar_6 hi3 rfl ?_
      refine q_istore_n (L' := [some (.ref (g.2.1 0)), some (.int p1), some (.int p2), some (.int (σ 6 p1.toNatClampNeg))]) dX11_people_36 (by decide) rfl rfl ?_
      refine q_aload_n dX11_people_37 rfl ?_
      refine q_getR dX11_people_38 fF_RX11_10 fl_0_0 ?_
      refine q_getR dX11_people_41 fF_RX11_97 fl_1_2 ?_
      refine q_getR dX11_people_44 fF_RX11_114 fl_4_1 ?_
      refine q_iload_n dX11_people_47 rfl ?_
      refine q_iload_n dX11_people_48 rfl ?_
      refine q_iastX (F := upd (σ 6) p1.toNatClampNeg p2) dX11_people_49 ar_6 hi3 rfl ?_
      refine q_iload_n dX11_people_50 rfl ?_
      exact q_iret .int rfl rfl dX11_people_51 h
    · have h := h.2 c2
      refine q_if_ne (tgt := 24) dX11_people_18 (by decide) (fun c => absurd rfl c) (fun _ => ?_)
      refine q_ldc dX11_people_21 ct_RX11_70 ?_
      exact q_iret .int rfl rfl dX11_people_23 h
  · have h := h.2 c1
    refine q_if_eq (tgt := 21) dX11_people_11 (by decide) (fun _ => ?_) (fun c => absurd (by decide) c)
    refine q_ldc dX11_people_21 ct_RX11_70 ?_
    exact q_iret .int rfl rfl dX11_people_23 h

theorem s_X11_shop_0 (g : vt_GT) (σ : vt_Sg) (P : Option Value → vt_Sg → Prop) (p1 : Int32) (p2 : Int32) (p3 : Int32) (p4 : Int32) (p5 : Int32)
  (h : ((¬ p1 < (0 : Int32) ∧ ¬ (3 : Int32) < p1) → ((¬ p2 < (0 : Int32) ∧ ¬ (7 : Int32) < p2) → ((¬ p3 < (0 : Int32) ∧ ¬ (99999 : Int32) < p3) → ((¬ p4 < (1 : Int32) ∧ ¬ (1199 : Int32) < p4) → ((p4 - p4 / 100 * 100) = 0 → P (some (.int (-1000000001))) σ) ∧ (¬ (p4 - p4 / 100 * 100) = 0 → ((¬ p5 < (1 : Int32) ∧ ¬ (999 : Int32) < p5) → ((σ 7 7) < 12 → vt_Mi g 0 D_X10_add [.ref (g.2.1 7), .int p1, .int p2, .int p3, .int p4, .int p5] σ (fun r9 σ8 => P (some (.int r9)) σ8)) ∧ (¬ (σ 7 7) < 12 → P (some (.int (-1000000003))) σ)) ∧ (¬ (¬ p5 < (1 : Int32) ∧ ¬ (999 : Int32) < p5) → P (some (.int (-1000000001))) σ))) ∧ (¬ (¬ p4 < (1 : Int32) ∧ ¬ (1199 : Int32) < p4) → P (some (.int (-1000000001))) σ)) ∧ (¬ (¬ p3 < (0 : Int32) ∧ ¬ (99999 : Int32) < p3) → P (some (.int (-1000000001))) σ)) ∧ (¬ (¬ p2 < (0 : Int32) ∧ ¬ (7 : Int32) < p2) → P (some (.int (-1000000001))) σ)) ∧ (¬ (¬ p1 < (0 : Int32) ∧ ¬ (3 : Int32) < p1) → P (some (.int (-1000000001))) σ)) :
  TT g (vt_R 1) 0 0 D_X11_shop none 0 [some (.ref (g.2.1 0)), some (.int p1), some (.int p2), some (.int p3), some (.int p4), some (.int p5), none] [] σ P := by
  refine q_iload_n dX11_shop_0 rfl ?_
  refine q_iconst (v := 0) dX11_shop_1 (by decide) ?_
  refine q_iconst (v := 3) dX11_shop_2 (by decide) ?_
  refine q_cSb (C := ¬ p1 < (0 : Int32) ∧ ¬ (3 : Int32) < p1) (d' := 0) [.int p1, .int 0, .int 3] [] dX11_shop_3 ok_X11_within mk_RX11_117 rfl (Nat.le_of_ble_eq_true rfl) (by first | decide | omega) (fun Φ h9 => c_X11_within (σ := σ) Φ h9) (fun c1 => ?_) (fun c1 => ?_)
  · have h := h.1 c1
    refine q_if_eq (tgt := 65) dX11_shop_6 (by decide) (fun c => absurd c (by decide)) (fun _ => ?_)
    refine q_iload_n dX11_shop_9 rfl ?_
    refine q_iconst (v := 0) dX11_shop_10 (by decide) ?_
    refine q_bipush (v := 7) dX11_shop_11 (by decide) ?_
    refine q_cSb (C := ¬ p2 < (0 : Int32) ∧ ¬ (7 : Int32) < p2) (d' := 0) [.int p2, .int 0, .int 7] [] dX11_shop_13 ok_X11_within mk_RX11_117 rfl (Nat.le_of_ble_eq_true rfl) (by first | decide | omega) (fun Φ h9 => c_X11_within (σ := σ) Φ h9) (fun c2 => ?_) (fun c2 => ?_)
    · have h := h.1 c2
      refine q_if_eq (tgt := 65) dX11_shop_16 (by decide) (fun c => absurd c (by decide)) (fun _ => ?_)
      refine q_iload_n dX11_shop_19 rfl ?_
      refine q_iconst (v := 0) dX11_shop_20 (by decide) ?_
      refine q_ldc dX11_shop_21 ct_RX11_121 ?_
      refine q_cSb (C := ¬ p3 < (0 : Int32) ∧ ¬ (99999 : Int32) < p3) (d' := 0) [.int p3, .int 0, .int 99999] [] dX11_shop_23 ok_X11_within mk_RX11_117 rfl (Nat.le_of_ble_eq_true rfl) (by first | decide | omega) (fun Φ h9 => c_X11_within (σ := σ) Φ h9) (fun c3 => ?_) (fun c3 => ?_)
      · have h := h.1 c3
        refine q_if_eq (tgt := 65) dX11_shop_26 (by decide) (fun c => absurd c (by decide)) (fun _ => ?_)
        refine q_iload dX11_shop_29 rfl ?_
        refine q_iconst (v := 1) dX11_shop_31 (by decide) ?_
        refine q_sipush (v := 1199) dX11_shop_32 (by decide) ?_
        refine q_cSb (C := ¬ p4 < (1 : Int32) ∧ ¬ (1199 : Int32) < p4) (d' := 0) [.int p4, .int 1, .int 1199] [] dX11_shop_35 ok_X11_within mk_RX11_117 rfl (Nat.le_of_ble_eq_true rfl) (by first | decide | omega) (fun Φ h9 => c_X11_within (σ := σ) Φ h9) (fun c4 => ?_) (fun c4 => ?_)
        · have h := h.1 c4
          refine q_if_eq (tgt := 65) dX11_shop_38 (by decide) (fun c => absurd c (by decide)) (fun _ => ?_)
          refine q_iload dX11_shop_41 rfl ?_
          refine q_bipush (v := 100) dX11_shop_43 (by decide) ?_
          refine q_irem dX11_shop_45 (by decide) ?_
          refine q_if_eq (tgt := 65) dX11_shop_46 (by decide) (fun c5 => ?_) (fun c5 => ?_)
          · have h := h.1 c5
            refine q_iconst (v := 0) dX11_shop_65 (by decide) ?_
            refine q_istore (L' := [some (.ref (g.2.1 0)), some (.int p1), some (.int p2), some (.int p3), some (.int p4), some (.int p5), some (.int 0)]) dX11_shop_66 (by decide) rfl rfl ?_
            refine q_iload dX11_shop_68 rfl ?_
            refine q_if_ne (tgt := 76) dX11_shop_70 (by decide) (fun c => absurd rfl c) (fun _ => ?_)
            refine q_ldc dX11_shop_73 ct_RX11_70 ?_
            exact q_iret .int rfl rfl dX11_shop_75 h
          · have h := h.2 c5
            refine q_iload dX11_shop_49 rfl ?_
            refine q_iconst (v := 1) dX11_shop_51 (by decide) ?_
            refine q_sipush (v := 999) dX11_shop_52 (by decide) ?_
            refine q_cSb (C := ¬ p5 < (1 : Int32) ∧ ¬ (999 : Int32) < p5) (d' := 0) [.int p5, .int 1, .int 999] [] dX11_shop_55 ok_X11_within mk_RX11_117 rfl (Nat.le_of_ble_eq_true rfl) (by first | decide | omega) (fun Φ h9 => c_X11_within (σ := σ) Φ h9) (fun c6 => ?_) (fun c6 => ?_)
            · have h := h.1 c6
              refine q_if_eq (tgt := 65) dX11_shop_58 (by decide) (fun c => absurd c (by decide)) (fun _ => ?_)
              refine q_iconst (v := 1) dX11_shop_61 (by decide) ?_
              refine q_goto (tgt := 66) dX11_shop_62 (by decide) ?_
              refine q_istore (L' := [some (.ref (g.2.1 0)), some (.int p1), some (.int p2), some (.int p3), some (.int p4), some (.int p5), some (.int 1)]) dX11_shop_66 (by decide) rfl rfl ?_
              refine q_iload dX11_shop_68 rfl ?_
              refine q_if_ne (tgt := 76) dX11_shop_70 (by decide) (fun _ => ?_) (fun c => absurd c (by decide))
              refine q_aload_n dX11_shop_76 rfl ?_
              refine q_getR dX11_shop_77 fF_RX11_10 fl_0_0 ?_
              refine q_getR dX11_shop_80 fF_RX11_122 fl_1_3 ?_
              refine q_getX (x := (σ 7 7)) dX11_shop_83 fF_RX11_126 fl_7_7 rfl ?_
              refine q_bipush (v := 12) dX11_shop_86 (by decide) ?_
              refine q_icmp_lt (tgt := 94) dX11_shop_88 (by decide) (fun c7 => ?_) (fun c7 => ?_)
              · have h := h.1 c7
                refine q_aload_n dX11_shop_94 rfl ?_
                refine q_getR dX11_shop_95 fF_RX11_10 fl_0_0 ?_
                refine q_getR dX11_shop_98 fF_RX11_122 fl_1_3 ?_
                refine q_iload_n dX11_shop_101 rfl ?_
                refine q_iload_n dX11_shop_102 rfl ?_
                refine q_iload_n dX11_shop_103 rfl ?_
                refine q_iload dX11_shop_104 rfl ?_
                refine q_iload dX11_shop_106 rfl ?_
                refine q_cV (d' := 0) [.int p1, .int p2, .int p3, .int p4, .int p5] [] dX11_shop_108 ok_X10_add mk_RX11_129 rc_7 rfl (Nat.le_of_ble_eq_true rfl) (by first | decide | omega) h (fun v σ8 h => ?_)
                obtain ⟨r9, rfl, h⟩ := h
                exact q_iret .int rfl rfl dX11_shop_111 h
              · have h := h.2 c7
                refine q_ldc dX11_shop_91 ct_RX11_107 ?_
                exact q_iret .int rfl rfl dX11_shop_93 h
            · have h := h.2 c6
              refine q_if_eq (tgt := 65) dX11_shop_58 (by decide) (fun _ => ?_) (fun c => absurd (by decide) c)
              refine q_iconst (v := 0) dX11_shop_65 (by decide) ?_
              refine q_istore (L' := [some (.ref (g.2.1 0)), some (.int p1), some (.int p2), some (.int p3), some (.int p4), some (.int p5), some (.int 0)]) dX11_shop_66 (by decide) rfl rfl ?_
              refine q_iload dX11_shop_68 rfl ?_
              refine q_if_ne (tgt := 76) dX11_shop_70 (by decide) (fun c => absurd rfl c) (fun _ => ?_)
              refine q_ldc dX11_shop_73 ct_RX11_70 ?_
              exact q_iret .int rfl rfl dX11_shop_75 h
        · have h := h.2 c4
          refine q_if_eq (tgt := 65) dX11_shop_38 (by decide) (fun _ => ?_) (fun c => absurd (by decide) c)
          refine q_iconst (v := 0) dX11_shop_65 (by decide) ?_
          refine q_istore (L' := [some (.ref (g.2.1 0)), some (.int p1), some (.int p2), some (.int p3), some (.int p4), some (.int p5), some (.int 0)]) dX11_shop_66 (by decide) rfl rfl ?_
          refine q_iload dX11_shop_68 rfl ?_
          refine q_if_ne (tgt := 76) dX11_shop_70 (by decide) (fun c => absurd rfl c) (fun _ => ?_)
          refine q_ldc dX11_shop_73 ct_RX11_70 ?_
          exact q_iret .int rfl rfl dX11_shop_75 h
      · have h := h.2 c3
        refine q_if_eq (tgt := 65) dX11_shop_26 (by decide) (fun _ => ?_) (fun c => absurd (by decide) c)
        refine q_iconst (v := 0) dX11_shop_65 (by decide) ?_
        refine q_istore (L' := [some (.ref (g.2.1 0)), some (.int p1), some (.int p2), some (.int p3), some (.int p4), some (.int p5), some (.int 0)]) dX11_shop_66 (by decide) rfl rfl ?_
        refine q_iload dX11_shop_68 rfl ?_
        refine q_if_ne (tgt := 76) dX11_shop_70 (by decide) (fun c => absurd rfl c) (fun _ => ?_)
        refine q_ldc dX11_shop_73 ct_RX11_70 ?_
        exact q_iret .int rfl rfl dX11_shop_75 h
    · have h := h.2 c2
      refine q_if_eq (tgt := 65) dX11_shop_16 (by decide) (fun _ => ?_) (fun c => absurd (by decide) c)
      refine q_iconst (v := 0) dX11_shop_65 (by decide) ?_
      refine q_istore (L' := [some (.ref (g.2.1 0)), some (.int p1), some (.int p2), some (.int p3), some (.int p4), some (.int p5), some (.int 0)]) dX11_shop_66 (by decide) rfl rfl ?_
      refine q_iload dX11_shop_68 rfl ?_
      refine q_if_ne (tgt := 76) dX11_shop_70 (by decide) (fun c => absurd rfl c) (fun _ => ?_)
      refine q_ldc dX11_shop_73 ct_RX11_70 ?_
      exact q_iret .int rfl rfl dX11_shop_75 h
  · have h := h.2 c1
    refine q_if_eq (tgt := 65) dX11_shop_6 (by decide) (fun _ => ?_) (fun c => absurd (by decide) c)
    refine q_iconst (v := 0) dX11_shop_65 (by decide) ?_
    refine q_istore (L' := [some (.ref (g.2.1 0)), some (.int p1), some (.int p2), some (.int p3), some (.int p4), some (.int p5), some (.int 0)]) dX11_shop_66 (by decide) rfl rfl ?_
    refine q_iload dX11_shop_68 rfl ?_
    refine q_if_ne (tgt := 76) dX11_shop_70 (by decide) (fun c => absurd rfl c) (fun _ => ?_)
    refine q_ldc dX11_shop_73 ct_RX11_70 ?_
    exact q_iret .int rfl rfl dX11_shop_75 h

theorem s_X11_isOf_0 (g : vt_GT) (σ : vt_Sg) (P : Option Value → vt_Sg → Prop) (p1 : Int32) (p2 : Int32)
  (h : ((¬ p1 < 0 ∧ ¬ (σ 7 7) ≤ p1) → ((¬ p2 < (0 : Int32) ∧ ¬ (3 : Int32) < p2) → vp_in p1 12 ∧ ((p2 = 0 → P (some (.int 1)) σ) ∧ (¬ p2 = 0 → (p2 = (σ 8 p1.toNatClampNeg) → P (some (.int 1)) σ) ∧ (¬ p2 = (σ 8 p1.toNatClampNeg) → (¬ p2 = 2 → P (some (.int 0)) σ) ∧ (p2 = 2 → (¬ (σ 8 p1.toNatClampNeg) = 3 → P (some (.int 0)) σ) ∧ ((σ 8 p1.toNatClampNeg) = 3 → P (some (.int 1)) σ)))))) ∧ (¬ (¬ p2 < (0 : Int32) ∧ ¬ (3 : Int32) < p2) → P (some (.int (-1000000001))) σ)) ∧ (¬ (¬ p1 < 0 ∧ ¬ (σ 7 7) ≤ p1) → P (some (.int (-1000000001))) σ)) :
  TT g (vt_R 1) 0 0 D_X11_isOf none 0 [some (.ref (g.2.1 0)), some (.int p1), some (.int p2), none, none] [] σ P := by
  refine q_aload_n dX11_isOf_0 rfl ?_
  refine q_getR dX11_isOf_1 fF_RX11_10 fl_0_0 ?_
  refine q_getR dX11_isOf_4 fF_RX11_122 fl_1_3 ?_
  refine q_iload_n dX11_isOf_7 rfl ?_
  refine q_cVb (C := ¬ p1 < 0 ∧ ¬ (σ 7 7) ≤ p1) (d' := 0) [.int p1] [] dX11_isOf_8 ok_X10_has mk_RX11_132 rc_7 rfl (Nat.le_of_ble_eq_true rfl) (by first | decide | omega) (fun Φ h9 => c_X10_has (σ := σ) Φ h9) (fun c1 => ?_) (fun c1 => ?_)
  · have h := h.1 c1
    refine q_if_eq (tgt := 23) dX11_isOf_11 (by decide) (fun c => absurd c (by decide)) (fun _ => ?_)
    refine q_iload_n dX11_isOf_14 rfl ?_
    refine q_iconst (v := 0) dX11_isOf_15 (by decide) ?_
    refine q_iconst (v := 3) dX11_isOf_16 (by decide) ?_
    refine q_cSb (C := ¬ p2 < (0 : Int32) ∧ ¬ (3 : Int32) < p2) (d' := 0) [.int p2, .int 0, .int 3] [] dX11_isOf_17 ok_X11_within mk_RX11_117 rfl (Nat.le_of_ble_eq_true rfl) (by first | decide | omega) (fun Φ h9 => c_X11_within (σ := σ) Φ h9) (fun c2 => ?_) (fun c2 => ?_)
    · have h := h.1 c2
      refine q_if_ne (tgt := 26) dX11_isOf_20 (by decide) (fun _ => ?_) (fun c => absurd c (by decide))
      refine q_aload_n dX11_isOf_26 rfl ?_
      refine q_getR dX11_isOf_27 fF_RX11_10 fl_0_0 ?_
      refine q_getR dX11_isOf_30 fF_RX11_122 fl_1_3 ?_
      refine q_getR dX11_isOf_33 fF_RX11_133 fl_7_0 ?_
      refine q_iload_n dX11_isOf_36 rfl ?_
      obtain ⟨hi3, h⟩ := h
      refine q_ialdX (v := (σ 8 p1.toNatClampNeg)) dX11_isOf_37 ar_8 hi3 rfl ?_
      refine q_istore_n (L' := [some (.ref (g.2.1 0)), some (.int p1), some (.int p2), some (.int (σ 8 p1.toNatClampNeg)), none]) dX11_isOf_38 (by decide) rfl rfl ?_
      refine q_iload_n dX11_isOf_39 rfl ?_
      refine q_if_eq (tgt := 58) dX11_isOf_40 (by decide) (fun c4 => ?_) (fun c4 => ?_)
      · have h := h.1 c4
        refine q_iconst (v := 1) dX11_isOf_58 (by decide) ?_
        refine q_goto (tgt := 63) dX11_isOf_59 (by decide) ?_
        refine q_istore (L' := [some (.ref (g.2.1 0)), some (.int p1), some (.int p2), some (.int (σ 8 p1.toNatClampNeg)), some (.int 1)]) dX11_isOf_63 (by decide) rfl rfl ?_
        refine q_iload dX11_isOf_65 rfl ?_
        refine q_if_eq (tgt := 74) dX11_isOf_67 (by decide) (fun c => absurd c (by decide)) (fun _ => ?_)
        refine q_iconst (v := 1) dX11_isOf_70 (by decide) ?_
        refine q_goto (tgt := 75) dX11_isOf_71 (by decide) ?_
        exact q_iret .int rfl rfl dX11_isOf_75 h
      · have h := h.2 c4
        refine q_iload_n dX11_isOf_43 rfl ?_
        refine q_iload_n dX11_isOf_44 rfl ?_
        refine q_icmp_eq (tgt := 58) dX11_isOf_45 (by decide) (fun c5 => ?_) (fun c5 => ?_)
        · have h := h.1 c5
          refine q_iconst (v := 1) dX11_isOf_58 (by decide) ?_
          refine q_goto (tgt := 63) dX11_isOf_59 (by decide) ?_
          refine q_istore (L' := [some (.ref (g.2.1 0)), some (.int p1), some (.int p2), some (.int (σ 8 p1.toNatClampNeg)), some (.int 1)]) dX11_isOf_63 (by decide) rfl rfl ?_
          refine q_iload dX11_isOf_65 rfl ?_
          refine q_if_eq (tgt := 74) dX11_isOf_67 (by decide) (fun c => absurd c (by decide)) (fun _ => ?_)
          refine q_iconst (v := 1) dX11_isOf_70 (by decide) ?_
          refine q_goto (tgt := 75) dX11_isOf_71 (by decide) ?_
          exact q_iret .int rfl rfl dX11_isOf_75 h
        · have h := h.2 c5
          refine q_iload_n dX11_isOf_48 rfl ?_
          refine q_iconst (v := 2) dX11_isOf_49 (by decide) ?_
          refine q_icmp_ne (tgt := 62) dX11_isOf_50 (by decide) (fun c6 => ?_) (fun c6 => ?_)
          · have h := h.1 c6
            refine q_iconst (v := 0) dX11_isOf_62 (by decide) ?_
            refine q_istore (L' := [some (.ref (g.2.1 0)), some (.int p1), some (.int p2), some (.int (σ 8 p1.toNatClampNeg)), some (.int 0)]) dX11_isOf_63 (by decide) rfl rfl ?_
            refine q_iload dX11_isOf_65 rfl ?_
            refine q_if_eq (tgt := 74) dX11_isOf_67 (by decide) (fun _ => ?_) (fun c => absurd (by decide) c)
            refine q_iconst (v := 0) dX11_isOf_74 (by decide) ?_
            exact q_iret .int rfl rfl dX11_isOf_75 h
          · have h := h.2 c6
            refine q_iload_n dX11_isOf_53 rfl ?_
            refine q_iconst (v := 3) dX11_isOf_54 (by decide) ?_
            refine q_icmp_ne (tgt := 62) dX11_isOf_55 (by decide) (fun c7 => ?_) (fun c7 => ?_)
            · have h := h.1 c7
              refine q_iconst (v := 0) dX11_isOf_62 (by decide) ?_
              refine q_istore (L' := [some (.ref (g.2.1 0)), some (.int p1), some (.int p2), some (.int (σ 8 p1.toNatClampNeg)), some (.int 0)]) dX11_isOf_63 (by decide) rfl rfl ?_
              refine q_iload dX11_isOf_65 rfl ?_
              refine q_if_eq (tgt := 74) dX11_isOf_67 (by decide) (fun _ => ?_) (fun c => absurd (by decide) c)
              refine q_iconst (v := 0) dX11_isOf_74 (by decide) ?_
              exact q_iret .int rfl rfl dX11_isOf_75 h
            · have h := h.2 c7
              refine q_iconst (v := 1) dX11_isOf_58 (by decide) ?_
              refine q_goto (tgt := 63) dX11_isOf_59 (by decide) ?_
              refine q_istore (L' := [some (.ref (g.2.1 0)), some (.int p1), some (.int p2), some (.int (σ 8 p1.toNatClampNeg)), some (.int 1)]) dX11_isOf_63 (by decide) rfl rfl ?_
              refine q_iload dX11_isOf_65 rfl ?_
              refine q_if_eq (tgt := 74) dX11_isOf_67 (by decide) (fun c => absurd c (by decide)) (fun _ => ?_)
              refine q_iconst (v := 1) dX11_isOf_70 (by decide) ?_
              refine q_goto (tgt := 75) dX11_isOf_71 (by decide) ?_
              exact q_iret .int rfl rfl dX11_isOf_75 h
    · have h := h.2 c2
      refine q_if_ne (tgt := 26) dX11_isOf_20 (by decide) (fun c => absurd rfl c) (fun _ => ?_)
      refine q_ldc dX11_isOf_23 ct_RX11_70 ?_
      exact q_iret .int rfl rfl dX11_isOf_25 h
  · have h := h.2 c1
    refine q_if_eq (tgt := 23) dX11_isOf_11 (by decide) (fun _ => ?_) (fun c => absurd (by decide) c)
    refine q_ldc dX11_isOf_23 ct_RX11_70 ?_
    exact q_iret .int rfl rfl dX11_isOf_25 h

theorem s_X11_move_0 (g : vt_GT) (σ : vt_Sg) (P : Option Value → vt_Sg → Prop) (p1 : Int32) (p2 : Int32)
  (h : ((¬ p1 < 0 ∧ ¬ (σ 7 7) ≤ p1) → (p2 = (-1000000005) → vt_Mv g 2 D_X2_look [.ref (g.2.1 116), .int (σ 1 9)] σ (fun σ3 => vp_in p1 12 ∧ (((σ3 117 p1.toNatClampNeg) = p2 → P (some (.int (-1000000002))) σ3) ∧ (¬ (σ3 117 p1.toNatClampNeg) = p2 → ((σ3 15 3) < 200 → vt_Mv g 0 D_X7_add [.ref (g.2.1 15), .int p1, .int (σ3 1 9), .int p2] σ3 (fun σ7 => P (some (.int (σ3 117 p1.toNatClampNeg))) σ7)) ∧ (¬ (σ3 15 3) < 200 → P (some (.int (-1000000003))) σ3))))) ∧ (¬ p2 = (-1000000005) → ((¬ p2 < 0 ∧ ¬ 11 < p2) → vt_Mv g 2 D_X2_look [.ref (g.2.1 116), .int (σ 1 9)] σ (fun σ9 => vp_in p1 12 ∧ (((σ9 117 p1.toNatClampNeg) = p2 → P (some (.int (-1000000002))) σ9) ∧ (¬ (σ9 117 p1.toNatClampNeg) = p2 → vp_in p2 12 ∧ (((σ9 118 p2.toNatClampNeg) = (-1000000005) → ((σ9 15 3) < 200 → vt_Mv g 0 D_X7_add [.ref (g.2.1 15), .int p1, .int (σ9 1 9), .int p2] σ9 (fun σ15 => P (some (.int (σ9 117 p1.toNatClampNeg))) σ15)) ∧ (¬ (σ9 15 3) < 200 → P (some (.int (-1000000003))) σ9)) ∧ (¬ (σ9 118 p2.toNatClampNeg) = (-1000000005) → P (some (.int (-1000000002))) σ9)))))) ∧ (¬ (¬ p2 < 0 ∧ ¬ 11 < p2) → P (some (.int (-1000000001))) σ))) ∧ (¬ (¬ p1 < 0 ∧ ¬ (σ 7 7) ≤ p1) → P (some (.int (-1000000001))) σ)) :
  TT g (vt_R 3) 0 0 D_X11_move none 0 [some (.ref (g.2.1 0)), some (.int p1), some (.int p2), none] [] σ P := by
  refine q_aload_n dX11_move_0 rfl ?_
  refine q_getR dX11_move_1 fF_RX11_10 fl_0_0 ?_
  refine q_getR dX11_move_4 fF_RX11_122 fl_1_3 ?_
  refine q_iload_n dX11_move_7 rfl ?_
  refine q_cVb (C := ¬ p1 < 0 ∧ ¬ (σ 7 7) ≤ p1) (d' := 0) [.int p1] [] dX11_move_8 ok_X10_has mk_RX11_132 rc_7 rfl (Nat.le_of_ble_eq_true rfl) (by first | decide | omega) (fun Φ h9 => c_X10_has (σ := σ) Φ h9) (fun c1 => ?_) (fun c1 => ?_)
  · have h := h.1 c1
    refine q_if_eq (tgt := 27) dX11_move_11 (by decide) (fun c => absurd c (by decide)) (fun _ => ?_)
    refine q_iload_n dX11_move_14 rfl ?_
    refine q_ldc dX11_move_15 ct_RX11_136 ?_
    refine q_icmp_eq (tgt := 30) dX11_move_17 (by decide) (fun c2 => ?_) (fun c2 => ?_)
    · have h := h.1 c2
      refine q_aload_n dX11_move_30 rfl ?_
      refine q_getR dX11_move_31 fF_RX11_38 fl_0_5 ?_
      refine q_aload_n dX11_move_34 rfl ?_
      refine q_getR dX11_move_35 fF_RX11_10 fl_0_0 ?_
      refine q_getX (x := (σ 1 9)) dX11_move_38 fF_RX11_137 fl_1_9 rfl ?_
      refine q_cV (d' := 2) [.int (σ 1 9)] [] dX11_move_41 ok_X2_look mk_RX11_140 rc_116 rfl (Nat.le_of_ble_eq_true rfl) (by first | decide | omega) h (fun v σ3 h => ?_)
      obtain ⟨rfl, h⟩ := h
      refine q_aload_n dX11_move_44 rfl ?_
      refine q_getR dX11_move_45 fF_RX11_38 fl_0_5 ?_
      refine q_getR dX11_move_48 fF_RX11_144 fl_116_3 ?_
      refine q_iload_n dX11_move_51 rfl ?_
      obtain ⟨hi4, h⟩ := h
      refine q_ialdX (v := (σ3 117 p1.toNatClampNeg)) dX11_move_52 ar_117 hi4 rfl ?_
      refine q_istore_n (L' := [some (.ref (g.2.1 0)), some (.int p1), some (.int p2), some (.int (σ3 117 p1.toNatClampNeg))]) dX11_move_53 (by decide) rfl rfl ?_
      refine q_iload_n dX11_move_54 rfl ?_
      refine q_iload_n dX11_move_55 rfl ?_
      refine q_icmp_eq (tgt := 79) dX11_move_56 (by decide) (fun c5 => ?_) (fun c5 => ?_)
      · have h := h.1 c5
        refine q_ldc dX11_move_79 ct_RX11_150 ?_
        exact q_iret .int rfl rfl dX11_move_81 h
      · have h := h.2 c5
        refine q_iload_n dX11_move_59 rfl ?_
        refine q_ldc dX11_move_60 ct_RX11_136 ?_
        refine q_icmp_eq (tgt := 82) dX11_move_62 (by decide) (fun _ => ?_) (fun c => absurd c2 c)
        refine q_aload_n dX11_move_82 rfl ?_
        refine q_getR dX11_move_83 fF_RX11_10 fl_0_0 ?_
        refine q_getR dX11_move_86 fF_RX11_151 fl_1_4 ?_
        refine q_getX (x := (σ3 15 3)) dX11_move_89 fF_RX11_155 fl_15_3 rfl ?_
        refine q_sipush (v := 200) dX11_move_92 (by decide) ?_
        refine q_icmp_lt (tgt := 101) dX11_move_95 (by decide) (fun c6 => ?_) (fun c6 => ?_)
        · have h := h.1 c6
          refine q_aload_n dX11_move_101 rfl ?_
          refine q_getR dX11_move_102 fF_RX11_10 fl_0_0 ?_
          refine q_getR dX11_move_105 fF_RX11_151 fl_1_4 ?_
          refine q_iload_n dX11_move_108 rfl ?_
          refine q_aload_n dX11_move_109 rfl ?_
          refine q_getR dX11_move_110 fF_RX11_10 fl_0_0 ?_
          refine q_getX (x := (σ3 1 9)) dX11_move_113 fF_RX11_137 fl_1_9 rfl ?_
          refine q_iload_n dX11_move_116 rfl ?_
          refine q_cV (d' := 0) [.int p1, .int (σ3 1 9), .int p2] [] dX11_move_117 ok_X7_add mk_RX11_158 rc_15 rfl (Nat.le_of_ble_eq_true rfl) (by first | decide | omega) h (fun v σ7 h => ?_)
          obtain ⟨rfl, h⟩ := h
          refine q_iload_n dX11_move_120 rfl ?_
          exact q_iret .int rfl rfl dX11_move_121 h
        · have h := h.2 c6
          refine q_ldc dX11_move_98 ct_RX11_107 ?_
          exact q_iret .int rfl rfl dX11_move_100 h
    · have h := h.2 c2
      refine q_iload_n dX11_move_20 rfl ?_
      refine q_cSb (C := ¬ p2 < 0 ∧ ¬ 11 < p2) (d' := 1) [.int p2] [] dX11_move_21 ok_X11_isPlace mk_RX11_63 rfl (Nat.le_of_ble_eq_true rfl) (by first | decide | omega) (fun Φ h9 => c_X11_isPlace (σ := σ) Φ h9) (fun c8 => ?_) (fun c8 => ?_)
      · have h := h.1 c8
        refine q_if_ne (tgt := 30) dX11_move_24 (by decide) (fun _ => ?_) (fun c => absurd c (by decide))
        refine q_aload_n dX11_move_30 rfl ?_
        refine q_getR dX11_move_31 fF_RX11_38 fl_0_5 ?_
        refine q_aload_n dX11_move_34 rfl ?_
        refine q_getR dX11_move_35 fF_RX11_10 fl_0_0 ?_
        refine q_getX (x := (σ 1 9)) dX11_move_38 fF_RX11_137 fl_1_9 rfl ?_
        refine q_cV (d' := 2) [.int (σ 1 9)] [] dX11_move_41 ok_X2_look mk_RX11_140 rc_116 rfl (Nat.le_of_ble_eq_true rfl) (by first | decide | omega) h (fun v σ9 h => ?_)
        obtain ⟨rfl, h⟩ := h
        refine q_aload_n dX11_move_44 rfl ?_
        refine q_getR dX11_move_45 fF_RX11_38 fl_0_5 ?_
        refine q_getR dX11_move_48 fF_RX11_144 fl_116_3 ?_
        refine q_iload_n dX11_move_51 rfl ?_
        obtain ⟨hi10, h⟩ := h
        refine q_ialdX (v := (σ9 117 p1.toNatClampNeg)) dX11_move_52 ar_117 hi10 rfl ?_
        refine q_istore_n (L' := [some (.ref (g.2.1 0)), some (.int p1), some (.int p2), some (.int (σ9 117 p1.toNatClampNeg))]) dX11_move_53 (by decide) rfl rfl ?_
        refine q_iload_n dX11_move_54 rfl ?_
        refine q_iload_n dX11_move_55 rfl ?_
        refine q_icmp_eq (tgt := 79) dX11_move_56 (by decide) (fun c11 => ?_) (fun c11 => ?_)
        · have h := h.1 c11
          refine q_ldc dX11_move_79 ct_RX11_150 ?_
          exact q_iret .int rfl rfl dX11_move_81 h
        · have h := h.2 c11
          refine q_iload_n dX11_move_59 rfl ?_
          refine q_ldc dX11_move_60 ct_RX11_136 ?_
          refine q_icmp_eq (tgt := 82) dX11_move_62 (by decide) (fun c => absurd c c2) (fun _ => ?_)
          refine q_aload_n dX11_move_65 rfl ?_
          refine q_getR dX11_move_66 fF_RX11_38 fl_0_5 ?_
          refine q_getR dX11_move_69 fF_RX11_147 fl_116_4 ?_
          refine q_iload_n dX11_move_72 rfl ?_
          obtain ⟨hi12, h⟩ := h
          refine q_ialdX (v := (σ9 118 p2.toNatClampNeg)) dX11_move_73 ar_118 hi12 rfl ?_
          refine q_ldc dX11_move_74 ct_RX11_136 ?_
          refine q_icmp_eq (tgt := 82) dX11_move_76 (by decide) (fun c13 => ?_) (fun c13 => ?_)
          · have h := h.1 c13
            refine q_aload_n dX11_move_82 rfl ?_
            refine q_getR dX11_move_83 fF_RX11_10 fl_0_0 ?_
            refine q_getR dX11_move_86 fF_RX11_151 fl_1_4 ?_
            refine q_getX (x := (σ9 15 3)) dX11_move_89 fF_RX11_155 fl_15_3 rfl ?_
            refine q_sipush (v := 200) dX11_move_92 (by decide) ?_
            refine q_icmp_lt (tgt := 101) dX11_move_95 (by decide) (fun c14 => ?_) (fun c14 => ?_)
            · have h := h.1 c14
              refine q_aload_n dX11_move_101 rfl ?_
              refine q_getR dX11_move_102 fF_RX11_10 fl_0_0 ?_
              refine q_getR dX11_move_105 fF_RX11_151 fl_1_4 ?_
              refine q_iload_n dX11_move_108 rfl ?_
              refine q_aload_n dX11_move_109 rfl ?_
              refine q_getR dX11_move_110 fF_RX11_10 fl_0_0 ?_
              refine q_getX (x := (σ9 1 9)) dX11_move_113 fF_RX11_137 fl_1_9 rfl ?_
              refine q_iload_n dX11_move_116 rfl ?_
              refine q_cV (d' := 0) [.int p1, .int (σ9 1 9), .int p2] [] dX11_move_117 ok_X7_add mk_RX11_158 rc_15 rfl (Nat.le_of_ble_eq_true rfl) (by first | decide | omega) h (fun v σ15 h => ?_)
              obtain ⟨rfl, h⟩ := h
              refine q_iload_n dX11_move_120 rfl ?_
              exact q_iret .int rfl rfl dX11_move_121 h
            · have h := h.2 c14
              refine q_ldc dX11_move_98 ct_RX11_107 ?_
              exact q_iret .int rfl rfl dX11_move_100 h
          · have h := h.2 c13
            refine q_ldc dX11_move_79 ct_RX11_150 ?_
            exact q_iret .int rfl rfl dX11_move_81 h
      · have h := h.2 c8
        refine q_if_ne (tgt := 30) dX11_move_24 (by decide) (fun c => absurd rfl c) (fun _ => ?_)
        refine q_ldc dX11_move_27 ct_RX11_70 ?_
        exact q_iret .int rfl rfl dX11_move_29 h
  · have h := h.2 c1
    refine q_if_eq (tgt := 27) dX11_move_11 (by decide) (fun _ => ?_) (fun c => absurd (by decide) c)
    refine q_ldc dX11_move_27 ct_RX11_70 ?_
    exact q_iret .int rfl rfl dX11_move_29 h

theorem s_X11_months_0 (g : vt_GT) (σ : vt_Sg) (P : Option Value → vt_Sg → Prop) (p1 : Int32)
  (h : ((¬ p1 < (1 : Int32) ∧ ¬ (24 : Int32) < p1) → (((σ 1 9) + p1) ≤ 120 → P (some (.int ((σ 1 9) + p1))) (su σ 1 (upd (σ 1) 9 ((σ 1 9) + p1)))) ∧ (¬ ((σ 1 9) + p1) ≤ 120 → P (some (.int (-1000000001))) σ)) ∧ (¬ (¬ p1 < (1 : Int32) ∧ ¬ (24 : Int32) < p1) → P (some (.int (-1000000001))) σ)) :
  TT g (vt_R 1) 0 0 D_X11_months none 0 [some (.ref (g.2.1 0)), some (.int p1)] [] σ P := by
  refine q_iload_n dX11_months_0 rfl ?_
  refine q_iconst (v := 1) dX11_months_1 (by decide) ?_
  refine q_bipush (v := 24) dX11_months_2 (by decide) ?_
  refine q_cSb (C := ¬ p1 < (1 : Int32) ∧ ¬ (24 : Int32) < p1) (d' := 0) [.int p1, .int 1, .int 24] [] dX11_months_4 ok_X11_within mk_RX11_117 rfl (Nat.le_of_ble_eq_true rfl) (by first | decide | omega) (fun Φ h9 => c_X11_within (σ := σ) Φ h9) (fun c1 => ?_) (fun c1 => ?_)
  · have h := h.1 c1
    refine q_if_eq (tgt := 24) dX11_months_7 (by decide) (fun c => absurd c (by decide)) (fun _ => ?_)
    refine q_aload_n dX11_months_10 rfl ?_
    refine q_getR dX11_months_11 fF_RX11_10 fl_0_0 ?_
    refine q_getX (x := (σ 1 9)) dX11_months_14 fF_RX11_137 fl_1_9 rfl ?_
    refine q_iload_n dX11_months_17 rfl ?_
    refine q_iadd dX11_months_18 ?_
    refine q_bipush (v := 120) dX11_months_19 (by decide) ?_
    refine q_icmp_le (tgt := 27) dX11_months_21 (by decide) (fun c2 => ?_) (fun c2 => ?_)
    · have h := h.1 c2
      refine q_aload_n dX11_months_27 rfl ?_
      refine q_getR dX11_months_28 fF_RX11_10 fl_0_0 ?_
      refine q_dup dX11_months_31 rfl ?_
      refine q_getX (x := (σ 1 9)) dX11_months_32 fF_RX11_137 fl_1_9 rfl ?_
      refine q_iload_n dX11_months_35 rfl ?_
      refine q_iadd dX11_months_36 ?_
      refine q_putX (F := upd (σ 1) 9 ((σ 1 9) + p1)) dX11_months_37 fF_RX11_137 fP_0_9 fl_1_9 rfl ?_
      refine q_aload_n dX11_months_40 rfl ?_
      refine q_getR dX11_months_41 fF_RX11_10 fl_0_0 ?_
      refine q_getX (x := ((σ 1 9) + p1)) dX11_months_44 fF_RX11_137 fl_1_9 rfl ?_
      exact q_iret .int rfl rfl dX11_months_47 h
    · have h := h.2 c2
      refine q_ldc dX11_months_24 ct_RX11_70 ?_
      exact q_iret .int rfl rfl dX11_months_26 h
  · have h := h.2 c1
    refine q_if_eq (tgt := 24) dX11_months_7 (by decide) (fun _ => ?_) (fun c => absurd (by decide) c)
    refine q_ldc dX11_months_24 ct_RX11_70 ?_
    exact q_iret .int rfl rfl dX11_months_26 h

theorem s_X11_rule_0 (g : vt_GT) (σ : vt_Sg) (P : Option Value → vt_Sg → Prop) (p1 : Int32) (p2 : Int32)
  (h : (¬ p1 = 0 → (¬ p1 = 1 → P (some (.int (-1000000001))) σ) ∧ (p1 = 1 → ((¬ p2 < (100 : Int32) ∧ ¬ (999 : Int32) < p2) → vp_in p1 2 ∧ (P (some (.int (σ 3 p1.toNatClampNeg))) (su σ 3 (upd (σ 3) p1.toNatClampNeg p2)))) ∧ (¬ (¬ p2 < (100 : Int32) ∧ ¬ (999 : Int32) < p2) → P (some (.int (-1000000001))) σ))) ∧ (p1 = 0 → ((¬ p2 < (0 : Int32) ∧ ¬ (100 : Int32) < p2) → vp_in p1 2 ∧ (P (some (.int (σ 3 p1.toNatClampNeg))) (su σ 3 (upd (σ 3) p1.toNatClampNeg p2)))) ∧ (¬ (¬ p2 < (0 : Int32) ∧ ¬ (100 : Int32) < p2) → (¬ p1 = 1 → P (some (.int (-1000000001))) σ) ∧ (p1 = 1 → ((¬ p2 < (100 : Int32) ∧ ¬ (999 : Int32) < p2) → vp_in p1 2 ∧ (P (some (.int (σ 3 p1.toNatClampNeg))) (su σ 3 (upd (σ 3) p1.toNatClampNeg p2)))) ∧ (¬ (¬ p2 < (100 : Int32) ∧ ¬ (999 : Int32) < p2) → P (some (.int (-1000000001))) σ))))) :
  TT g (vt_R 1) 0 0 D_X11_rule none 0 [some (.ref (g.2.1 0)), some (.int p1), some (.int p2), none, none] [] σ P := by
  refine q_iload_n dX11_rule_0 rfl ?_
  refine q_if_ne (tgt := 14) dX11_rule_1 (by decide) (fun c1 => ?_) (fun c1 => ?_)
  · have h := h.1 c1
    refine q_iload_n dX11_rule_14 rfl ?_
    refine q_iconst (v := 1) dX11_rule_15 (by decide) ?_
    refine q_icmp_ne (tgt := 35) dX11_rule_16 (by decide) (fun c2 => ?_) (fun c2 => ?_)
    · have h := h.1 c2
      refine q_iconst (v := 0) dX11_rule_35 (by decide) ?_
      refine q_istore_n (L' := [some (.ref (g.2.1 0)), some (.int p1), some (.int p2), some (.int 0), none]) dX11_rule_36 (by decide) rfl rfl ?_
      refine q_iload_n dX11_rule_37 rfl ?_
      refine q_if_ne (tgt := 44) dX11_rule_38 (by decide) (fun c => absurd rfl c) (fun _ => ?_)
      refine q_ldc dX11_rule_41 ct_RX11_70 ?_
      exact q_iret .int rfl rfl dX11_rule_43 h
    · have h := h.2 c2
      refine q_iload_n dX11_rule_19 rfl ?_
      refine q_bipush (v := 100) dX11_rule_20 (by decide) ?_
      refine q_sipush (v := 999) dX11_rule_22 (by decide) ?_
      refine q_cSb (C := ¬ p2 < (100 : Int32) ∧ ¬ (999 : Int32) < p2) (d' := 0) [.int p2, .int 100, .int 999] [] dX11_rule_25 ok_X11_within mk_RX11_117 rfl (Nat.le_of_ble_eq_true rfl) (by first | decide | omega) (fun Φ h9 => c_X11_within (σ := σ) Φ h9) (fun c3 => ?_) (fun c3 => ?_)
      · have h := h.1 c3
        refine q_if_eq (tgt := 35) dX11_rule_28 (by decide) (fun c => absurd c (by decide)) (fun _ => ?_)
        refine q_iconst (v := 1) dX11_rule_31 (by decide) ?_
        refine q_goto (tgt := 36) dX11_rule_32 (by decide) ?_
        refine q_istore_n (L' := [some (.ref (g.2.1 0)), some (.int p1), some (.int p2), some (.int 1), none]) dX11_rule_36 (by decide) rfl rfl ?_
        refine q_iload_n dX11_rule_37 rfl ?_
        refine q_if_ne (tgt := 44) dX11_rule_38 (by decide) (fun _ => ?_) (fun c => absurd c (by decide))
        refine q_aload_n dX11_rule_44 rfl ?_
        refine q_getR dX11_rule_45 fF_RX11_10 fl_0_0 ?_
        refine q_getR dX11_rule_48 fF_RX11_161 fl_1_1 ?_
        refine q_iload_n dX11_rule_51 rfl ?_
        obtain ⟨hi4, h⟩ := h
        refine q_ialdX (v := (σ 3 p1.toNatClampNeg)) dX11_rule_52 ar_3 hi4 rfl ?_
        refine q_istore (L' := [some (.ref (g.2.1 0)), some (.int p1), some (.int p2), some (.int 1), some (.int (σ 3 p1.toNatClampNeg))]) dX11_rule_53 (by decide) rfl rfl ?_
        refine q_aload_n dX11_rule_55 rfl ?_
        refine q_getR dX11_rule_56 fF_RX11_10 fl_0_0 ?_
        refine q_getR dX11_rule_59 fF_RX11_161 fl_1_1 ?_
        refine q_iload_n dX11_rule_62 rfl ?_
        refine q_iload_n dX11_rule_63 rfl ?_
        refine q_iastX (F := upd (σ 3) p1.toNatClampNeg p2) dX11_rule_64 ar_3 hi4 rfl ?_
        refine q_iload dX11_rule_65 rfl ?_
        exact q_iret .int rfl rfl dX11_rule_67 h
      · have h := h.2 c3
        refine q_if_eq (tgt := 35) dX11_rule_28 (by decide) (fun _ => ?_) (fun c => absurd (by decide) c)
        refine q_iconst (v := 0) dX11_rule_35 (by decide) ?_
        refine q_istore_n (L' := [some (.ref (g.2.1 0)), some (.int p1), some (.int p2), some (.int 0), none]) dX11_rule_36 (by decide) rfl rfl ?_
        refine q_iload_n dX11_rule_37 rfl ?_
        refine q_if_ne (tgt := 44) dX11_rule_38 (by decide) (fun c => absurd rfl c) (fun _ => ?_)
        refine q_ldc dX11_rule_41 ct_RX11_70 ?_
        exact q_iret .int rfl rfl dX11_rule_43 h
  · have h := h.2 c1
    refine q_iload_n dX11_rule_4 rfl ?_
    refine q_iconst (v := 0) dX11_rule_5 (by decide) ?_
    refine q_bipush (v := 100) dX11_rule_6 (by decide) ?_
    refine q_cSb (C := ¬ p2 < (0 : Int32) ∧ ¬ (100 : Int32) < p2) (d' := 0) [.int p2, .int 0, .int 100] [] dX11_rule_8 ok_X11_within mk_RX11_117 rfl (Nat.le_of_ble_eq_true rfl) (by first | decide | omega) (fun Φ h9 => c_X11_within (σ := σ) Φ h9) (fun c5 => ?_) (fun c5 => ?_)
    · have h := h.1 c5
      refine q_if_ne (tgt := 31) dX11_rule_11 (by decide) (fun _ => ?_) (fun c => absurd c (by decide))
      refine q_iconst (v := 1) dX11_rule_31 (by decide) ?_
      refine q_goto (tgt := 36) dX11_rule_32 (by decide) ?_
      refine q_istore_n (L' := [some (.ref (g.2.1 0)), some (.int p1), some (.int p2), some (.int 1), none]) dX11_rule_36 (by decide) rfl rfl ?_
      refine q_iload_n dX11_rule_37 rfl ?_
      refine q_if_ne (tgt := 44) dX11_rule_38 (by decide) (fun _ => ?_) (fun c => absurd c (by decide))
      refine q_aload_n dX11_rule_44 rfl ?_
      refine q_getR dX11_rule_45 fF_RX11_10 fl_0_0 ?_
      refine q_getR dX11_rule_48 fF_RX11_161 fl_1_1 ?_
      refine q_iload_n dX11_rule_51 rfl ?_
      obtain ⟨hi6, h⟩ := h
      refine q_ialdX (v := (σ 3 p1.toNatClampNeg)) dX11_rule_52 ar_3 hi6 rfl ?_
      refine q_istore (L' := [some (.ref (g.2.1 0)), some (.int p1), some (.int p2), some (.int 1), some (.int (σ 3 p1.toNatClampNeg))]) dX11_rule_53 (by decide) rfl rfl ?_
      refine q_aload_n dX11_rule_55 rfl ?_
      refine q_getR dX11_rule_56 fF_RX11_10 fl_0_0 ?_
      refine q_getR dX11_rule_59 fF_RX11_161 fl_1_1 ?_
      refine q_iload_n dX11_rule_62 rfl ?_
      refine q_iload_n dX11_rule_63 rfl ?_
      refine q_iastX (F := upd (σ 3) p1.toNatClampNeg p2) dX11_rule_64 ar_3 hi6 rfl ?_
      refine q_iload dX11_rule_65 rfl ?_
      exact q_iret .int rfl rfl dX11_rule_67 h
    · have h := h.2 c5
      refine q_if_ne (tgt := 31) dX11_rule_11 (by decide) (fun c => absurd rfl c) (fun _ => ?_)
      refine q_iload_n dX11_rule_14 rfl ?_
      refine q_iconst (v := 1) dX11_rule_15 (by decide) ?_
      refine q_icmp_ne (tgt := 35) dX11_rule_16 (by decide) (fun c7 => ?_) (fun c7 => ?_)
      · have h := h.1 c7
        refine q_iconst (v := 0) dX11_rule_35 (by decide) ?_
        refine q_istore_n (L' := [some (.ref (g.2.1 0)), some (.int p1), some (.int p2), some (.int 0), none]) dX11_rule_36 (by decide) rfl rfl ?_
        refine q_iload_n dX11_rule_37 rfl ?_
        refine q_if_ne (tgt := 44) dX11_rule_38 (by decide) (fun c => absurd rfl c) (fun _ => ?_)
        refine q_ldc dX11_rule_41 ct_RX11_70 ?_
        exact q_iret .int rfl rfl dX11_rule_43 h
      · have h := h.2 c7
        refine q_iload_n dX11_rule_19 rfl ?_
        refine q_bipush (v := 100) dX11_rule_20 (by decide) ?_
        refine q_sipush (v := 999) dX11_rule_22 (by decide) ?_
        refine q_cSb (C := ¬ p2 < (100 : Int32) ∧ ¬ (999 : Int32) < p2) (d' := 0) [.int p2, .int 100, .int 999] [] dX11_rule_25 ok_X11_within mk_RX11_117 rfl (Nat.le_of_ble_eq_true rfl) (by first | decide | omega) (fun Φ h9 => c_X11_within (σ := σ) Φ h9) (fun c8 => ?_) (fun c8 => ?_)
        · have h := h.1 c8
          refine q_if_eq (tgt := 35) dX11_rule_28 (by decide) (fun c => absurd c (by decide)) (fun _ => ?_)
          refine q_iconst (v := 1) dX11_rule_31 (by decide) ?_
          refine q_goto (tgt := 36) dX11_rule_32 (by decide) ?_
          refine q_istore_n (L' := [some (.ref (g.2.1 0)), some (.int p1), some (.int p2), some (.int 1), none]) dX11_rule_36 (by decide) rfl rfl ?_
          refine q_iload_n dX11_rule_37 rfl ?_
          refine q_if_ne (tgt := 44) dX11_rule_38 (by decide) (fun _ => ?_) (fun c => absurd c (by decide))
          refine q_aload_n dX11_rule_44 rfl ?_
          refine q_getR dX11_rule_45 fF_RX11_10 fl_0_0 ?_
          refine q_getR dX11_rule_48 fF_RX11_161 fl_1_1 ?_
          refine q_iload_n dX11_rule_51 rfl ?_
          obtain ⟨hi9, h⟩ := h
          refine q_ialdX (v := (σ 3 p1.toNatClampNeg)) dX11_rule_52 ar_3 hi9 rfl ?_
          refine q_istore (L' := [some (.ref (g.2.1 0)), some (.int p1), some (.int p2), some (.int 1), some (.int (σ 3 p1.toNatClampNeg))]) dX11_rule_53 (by decide) rfl rfl ?_
          refine q_aload_n dX11_rule_55 rfl ?_
          refine q_getR dX11_rule_56 fF_RX11_10 fl_0_0 ?_
          refine q_getR dX11_rule_59 fF_RX11_161 fl_1_1 ?_
          refine q_iload_n dX11_rule_62 rfl ?_
          refine q_iload_n dX11_rule_63 rfl ?_
          refine q_iastX (F := upd (σ 3) p1.toNatClampNeg p2) dX11_rule_64 ar_3 hi9 rfl ?_
          refine q_iload dX11_rule_65 rfl ?_
          exact q_iret .int rfl rfl dX11_rule_67 h
        · have h := h.2 c8
          refine q_if_eq (tgt := 35) dX11_rule_28 (by decide) (fun _ => ?_) (fun c => absurd (by decide) c)
          refine q_iconst (v := 0) dX11_rule_35 (by decide) ?_
          refine q_istore_n (L' := [some (.ref (g.2.1 0)), some (.int p1), some (.int p2), some (.int 0), none]) dX11_rule_36 (by decide) rfl rfl ?_
          refine q_iload_n dX11_rule_37 rfl ?_
          refine q_if_ne (tgt := 44) dX11_rule_38 (by decide) (fun c => absurd rfl c) (fun _ => ?_)
          refine q_ldc dX11_rule_41 ct_RX11_70 ?_
          exact q_iret .int rfl rfl dX11_rule_43 h

theorem s_X11_stands_0 (g : vt_GT) (σ : vt_Sg) (P : Option Value → vt_Sg → Prop) (p1 : Int32) (p2 : Int32) (p3 : Int32)
  (h : ((¬ p1 < 0 ∧ ¬ (σ 7 7) ≤ p1) → ((¬ p2 < 0 ∧ ¬ (σ 1 9) < p2) → ((¬ p3 < (0 : Int32) ∧ ¬ (7 : Int32) < p3) → vt_Mv g 2 D_X2_look [.ref (g.2.1 116), .int p2] σ (fun σ4 => vp_in p1 12 ∧ ((¬ p3 = 0 → (¬ (σ4 117 p1.toNatClampNeg) = (-1000000005) → (p3 = 1 → P (some (.int (σ4 119 p1.toNatClampNeg))) σ4) ∧ (¬ p3 = 1 → (p3 = 2 → vp_in (σ4 117 p1.toNatClampNeg) 12 ∧ (P (some (.int (σ4 120 (σ4 117 p1.toNatClampNeg).toNatClampNeg))) σ4)) ∧ (¬ p3 = 2 → (p3 = 3 → vt_Mi g 0 D_X2_foretold [.ref (g.2.1 116), .int p1] σ4 (fun r16 σ15 => P (some (.int r16)) σ15)) ∧ (¬ p3 = 3 → (p3 = 4 → P (some (.int (if σ4 117 p1.toNatClampNeg = (-1000000005) then σ4 116 2 else (σ4 116 2) - 1))) σ4) ∧ (¬ p3 = 4 → (p3 = 5 → vt_Mi g 0 D_X2_anchors [.ref (g.2.1 116), .int p1] σ4 (fun r14 σ13 => P (some (.int r14)) σ13)) ∧ (¬ p3 = 5 → (p3 = 6 → vt_Mi g 0 D_X2_beside [.ref (g.2.1 116), .int (σ4 117 p1.toNatClampNeg)] σ4 (fun r12 σ11 => P (some (.int r12)) σ11)) ∧ (¬ p3 = 6 → vt_Mi g 1 D_X2_rivalNear [.ref (g.2.1 116), .int p1] σ4 (fun r9 σ8 => (r9 = 0 → P (some (.int 0)) σ8) ∧ (¬ r9 = 0 → P (some (.int 1)) σ8))))))))) ∧ ((σ4 117 p1.toNatClampNeg) = (-1000000005) → P (some (.int (-1000000002))) σ4)) ∧ (p3 = 0 → P (some (.int (σ4 117 p1.toNatClampNeg))) σ4)))) ∧ (¬ (¬ p3 < (0 : Int32) ∧ ¬ (7 : Int32) < p3) → P (some (.int (-1000000001))) σ)) ∧ (¬ (¬ p2 < 0 ∧ ¬ (σ 1 9) < p2) → P (some (.int (-1000000001))) σ)) ∧ (¬ (¬ p1 < 0 ∧ ¬ (σ 7 7) ≤ p1) → P (some (.int (-1000000001))) σ)) :
  TT g (vt_R 3) 0 0 D_X11_stands none 0 [some (.ref (g.2.1 0)), some (.int p1), some (.int p2), some (.int p3), none] [] σ P := by
  refine q_aload_n dX11_stands_0 rfl ?_
  refine q_getR dX11_stands_1 fF_RX11_10 fl_0_0 ?_
  refine q_getR dX11_stands_4 fF_RX11_122 fl_1_3 ?_
  refine q_iload_n dX11_stands_7 rfl ?_
  refine q_cVb (C := ¬ p1 < 0 ∧ ¬ (σ 7 7) ≤ p1) (d' := 0) [.int p1] [] dX11_stands_8 ok_X10_has mk_RX11_132 rc_7 rfl (Nat.le_of_ble_eq_true rfl) (by first | decide | omega) (fun Φ h9 => c_X10_has (σ := σ) Φ h9) (fun c1 => ?_) (fun c1 => ?_)
  · have h := h.1 c1
    refine q_if_eq (tgt := 32) dX11_stands_11 (by decide) (fun c => absurd c (by decide)) (fun _ => ?_)
    refine q_aload_n dX11_stands_14 rfl ?_
    refine q_iload_n dX11_stands_15 rfl ?_
    refine q_cVb (C := ¬ p2 < 0 ∧ ¬ (σ 1 9) < p2) (d' := 1) [.int p2] [] dX11_stands_16 ok_X11_isMonth mk_RX11_164 rc_0 rfl (Nat.le_of_ble_eq_true rfl) (by first | decide | omega) (fun Φ h9 => c_X11_isMonth (σ := σ) Φ h9) (fun c2 => ?_) (fun c2 => ?_)
    · have h := h.1 c2
      refine q_if_eq (tgt := 32) dX11_stands_19 (by decide) (fun c => absurd c (by decide)) (fun _ => ?_)
      refine q_iload_n dX11_stands_22 rfl ?_
      refine q_iconst (v := 0) dX11_stands_23 (by decide) ?_
      refine q_bipush (v := 7) dX11_stands_24 (by decide) ?_
      refine q_cSb (C := ¬ p3 < (0 : Int32) ∧ ¬ (7 : Int32) < p3) (d' := 0) [.int p3, .int 0, .int 7] [] dX11_stands_26 ok_X11_within mk_RX11_117 rfl (Nat.le_of_ble_eq_true rfl) (by first | decide | omega) (fun Φ h9 => c_X11_within (σ := σ) Φ h9) (fun c3 => ?_) (fun c3 => ?_)
      · have h := h.1 c3
        refine q_if_ne (tgt := 35) dX11_stands_29 (by decide) (fun _ => ?_) (fun c => absurd c (by decide))
        refine q_aload_n dX11_stands_35 rfl ?_
        refine q_getR dX11_stands_36 fF_RX11_38 fl_0_5 ?_
        refine q_iload_n dX11_stands_39 rfl ?_
        refine q_cV (d' := 2) [.int p2] [] dX11_stands_40 ok_X2_look mk_RX11_140 rc_116 rfl (Nat.le_of_ble_eq_true rfl) (by first | decide | omega) h (fun v σ4 h => ?_)
        obtain ⟨rfl, h⟩ := h
        refine q_aload_n dX11_stands_43 rfl ?_
        refine q_getR dX11_stands_44 fF_RX11_38 fl_0_5 ?_
        refine q_getR dX11_stands_47 fF_RX11_144 fl_116_3 ?_
        refine q_iload_n dX11_stands_50 rfl ?_
        obtain ⟨hi5, h⟩ := h
        refine q_ialdX (v := (σ4 117 p1.toNatClampNeg)) dX11_stands_51 ar_117 hi5 rfl ?_
        refine q_istore (L' := [some (.ref (g.2.1 0)), some (.int p1), some (.int p2), some (.int p3), some (.int (σ4 117 p1.toNatClampNeg))]) dX11_stands_52 (by decide) rfl rfl ?_
        refine q_iload_n dX11_stands_54 rfl ?_
        refine q_if_ne (tgt := 61) dX11_stands_55 (by decide) (fun c6 => ?_) (fun c6 => ?_)
        · have h := h.1 c6
          refine q_iload dX11_stands_61 rfl ?_
          refine q_ldc dX11_stands_63 ct_RX11_136 ?_
          refine q_icmp_ne (tgt := 71) dX11_stands_65 (by decide) (fun c7 => ?_) (fun c7 => ?_)
          · have h := h.1 c7
            refine q_iload_n dX11_stands_71 rfl ?_
            by_cases n72_0 : p3 = 1
            · have h := h.1 n72_0
              refine q_tabE (kk := 1) n72_0 (tgt := 112) (off := 40) dX11_stands_72 (by decide) (by decide) rfl (by decide) ?_
              refine q_aload_n dX11_stands_112 rfl ?_
              refine q_getR dX11_stands_113 fF_RX11_38 fl_0_5 ?_
              refine q_getR dX11_stands_116 fF_RX11_167 fl_116_5 ?_
              refine q_iload_n dX11_stands_119 rfl ?_
              refine q_ialdX (v := (σ4 119 p1.toNatClampNeg)) dX11_stands_120 ar_119 hi5 rfl ?_
              exact q_iret .int rfl rfl dX11_stands_121 h
            · have h := h.2 n72_0
              by_cases n72_1 : p3 = 2
              · have h := h.1 n72_1
                refine q_tabE (kk := 2) n72_1 (tgt := 122) (off := 50) dX11_stands_72 (by decide) (by decide) rfl (by decide) ?_
                refine q_aload_n dX11_stands_122 rfl ?_
                refine q_getR dX11_stands_123 fF_RX11_38 fl_0_5 ?_
                refine q_getR dX11_stands_126 fF_RX11_170 fl_116_6 ?_
                refine q_iload dX11_stands_129 rfl ?_
                obtain ⟨hi17, h⟩ := h
                refine q_ialdX (v := (σ4 120 (σ4 117 p1.toNatClampNeg).toNatClampNeg)) dX11_stands_131 ar_120 hi17 rfl ?_
                exact q_iret .int rfl rfl dX11_stands_132 h
              · have h := h.2 n72_1
                by_cases n72_2 : p3 = 3
                · have h := h.1 n72_2
                  refine q_tabE (kk := 3) n72_2 (tgt := 133) (off := 61) dX11_stands_72 (by decide) (by decide) rfl (by decide) ?_
                  refine q_aload_n dX11_stands_133 rfl ?_
                  refine q_getR dX11_stands_134 fF_RX11_38 fl_0_5 ?_
                  refine q_iload_n dX11_stands_137 rfl ?_
                  refine q_cV (d' := 0) [.int p1] [] dX11_stands_138 ok_X2_foretold mk_RX11_173 rc_116 rfl (Nat.le_of_ble_eq_true rfl) (by first | decide | omega) h (fun v σ15 h => ?_)
                  obtain ⟨r16, rfl, h⟩ := h
                  exact q_iret .int rfl rfl dX11_stands_141 h
                · have h := h.2 n72_2
                  by_cases n72_3 : p3 = 4
                  · have h := h.1 n72_3
                    refine q_tabE (kk := 4) n72_3 (tgt := 142) (off := 70) dX11_stands_72 (by decide) (by decide) rfl (by decide) ?_
                    refine q_aload_n dX11_stands_142 rfl ?_
                    refine q_getR dX11_stands_143 fF_RX11_38 fl_0_5 ?_
                    refine q_iload_n dX11_stands_146 rfl ?_
                    refine q_cVi (e := (if σ4 117 p1.toNatClampNeg = (-1000000005) then σ4 116 2 else (σ4 116 2) - 1)) (d' := 0) [.int p1] [] dX11_stands_147 ok_X2_others mk_RX11_177 rc_116 rfl (Nat.le_of_ble_eq_true rfl) (by first | decide | omega) (fun Φ h9 => c_X2_others (σ := σ4) hi5 Φ h9) ?_
                    exact q_iret .int rfl rfl dX11_stands_150 h
                  · have h := h.2 n72_3
                    by_cases n72_4 : p3 = 5
                    · have h := h.1 n72_4
                      refine q_tabE (kk := 5) n72_4 (tgt := 151) (off := 79) dX11_stands_72 (by decide) (by decide) rfl (by decide) ?_
                      refine q_aload_n dX11_stands_151 rfl ?_
                      refine q_getR dX11_stands_152 fF_RX11_38 fl_0_5 ?_
                      refine q_iload_n dX11_stands_155 rfl ?_
                      refine q_cV (d' := 0) [.int p1] [] dX11_stands_156 ok_X2_anchors mk_RX11_180 rc_116 rfl (Nat.le_of_ble_eq_true rfl) (by first | decide | omega) h (fun v σ13 h => ?_)
                      obtain ⟨r14, rfl, h⟩ := h
                      exact q_iret .int rfl rfl dX11_stands_159 h
                    · have h := h.2 n72_4
                      by_cases n72_5 : p3 = 6
                      · have h := h.1 n72_5
                        refine q_tabE (kk := 6) n72_5 (tgt := 160) (off := 88) dX11_stands_72 (by decide) (by decide) rfl (by decide) ?_
                        refine q_aload_n dX11_stands_160 rfl ?_
                        refine q_getR dX11_stands_161 fF_RX11_38 fl_0_5 ?_
                        refine q_iload dX11_stands_164 rfl ?_
                        refine q_cV (d' := 0) [.int (σ4 117 p1.toNatClampNeg)] [] dX11_stands_166 ok_X2_beside mk_RX11_183 rc_116 rfl (Nat.le_of_ble_eq_true rfl) (by first | decide | omega) h (fun v σ11 h => ?_)
                        obtain ⟨r12, rfl, h⟩ := h
                        exact q_iret .int rfl rfl dX11_stands_169 h
                      · have h := h.2 n72_5
                        refine q_tabOut (tgt := 170) dX11_stands_72 (by have z0 := lv_neT (a := 1) n72_0 (by decide); have z1 := lv_neT (a := 2) n72_1 (by decide); have z2 := lv_neT (a := 3) n72_2 (by decide); have z3 := lv_neT (a := 4) n72_3 (by decide); have z4 := lv_neT (a := 5) n72_4 (by decide); have z5 := lv_neT (a := 6) n72_5 (by decide); omega) (by decide) ?_
                        refine q_aload_n dX11_stands_170 rfl ?_
                        refine q_getR dX11_stands_171 fF_RX11_38 fl_0_5 ?_
                        refine q_iload_n dX11_stands_174 rfl ?_
                        refine q_cV (d' := 1) [.int p1] [] dX11_stands_175 ok_X2_rivalNear mk_RX11_186 rc_116 rfl (Nat.le_of_ble_eq_true rfl) (by first | decide | omega) h (fun v σ8 h => ?_)
                        obtain ⟨r9, rfl, h⟩ := h
                        refine q_if_eq (tgt := 185) dX11_stands_178 (by decide) (fun c10 => ?_) (fun c10 => ?_)
                        · have h := h.1 c10
                          refine q_iconst (v := 0) dX11_stands_185 (by decide) ?_
                          exact q_iret .int rfl rfl dX11_stands_186 h
                        · have h := h.2 c10
                          refine q_iconst (v := 1) dX11_stands_181 (by decide) ?_
                          refine q_goto (tgt := 186) dX11_stands_182 (by decide) ?_
                          exact q_iret .int rfl rfl dX11_stands_186 h
          · have h := h.2 c7
            refine q_ldc dX11_stands_68 ct_RX11_150 ?_
            exact q_iret .int rfl rfl dX11_stands_70 h
        · have h := h.2 c6
          refine q_iload dX11_stands_58 rfl ?_
          exact q_iret .int rfl rfl dX11_stands_60 h
      · have h := h.2 c3
        refine q_if_ne (tgt := 35) dX11_stands_29 (by decide) (fun c => absurd rfl c) (fun _ => ?_)
        refine q_ldc dX11_stands_32 ct_RX11_70 ?_
        exact q_iret .int rfl rfl dX11_stands_34 h
    · have h := h.2 c2
      refine q_if_eq (tgt := 32) dX11_stands_19 (by decide) (fun _ => ?_) (fun c => absurd (by decide) c)
      refine q_ldc dX11_stands_32 ct_RX11_70 ?_
      exact q_iret .int rfl rfl dX11_stands_34 h
  · have h := h.2 c1
    refine q_if_eq (tgt := 32) dX11_stands_11 (by decide) (fun _ => ?_) (fun c => absurd (by decide) c)
    refine q_ldc dX11_stands_32 ct_RX11_70 ?_
    exact q_iret .int rfl rfl dX11_stands_34 h

theorem s_X11_past_0 (g : vt_GT) (σ : vt_Sg) (P : Option Value → vt_Sg → Prop) (p1 : Int32) (p2 : Int32)
  (h : ((¬ p1 < 0 ∧ ¬ 11 < p1) → ((¬ p2 < 0 ∧ ¬ (σ 1 9) < p2) → vt_Mv g 2 D_X2_look [.ref (g.2.1 116), .int p2] σ (fun σ3 => vp_in p1 12 ∧ (P (some (.int (σ3 120 p1.toNatClampNeg))) σ3))) ∧ (¬ (¬ p2 < 0 ∧ ¬ (σ 1 9) < p2) → P (some (.int (-1000000001))) σ)) ∧ (¬ (¬ p1 < 0 ∧ ¬ 11 < p1) → P (some (.int (-1000000001))) σ)) :
  TT g (vt_R 3) 0 0 D_X11_past none 0 [some (.ref (g.2.1 0)), some (.int p1), some (.int p2)] [] σ P := by
  refine q_iload_n dX11_past_0 rfl ?_
  refine q_cSb (C := ¬ p1 < 0 ∧ ¬ 11 < p1) (d' := 1) [.int p1] [] dX11_past_1 ok_X11_isPlace mk_RX11_63 rfl (Nat.le_of_ble_eq_true rfl) (by first | decide | omega) (fun Φ h9 => c_X11_isPlace (σ := σ) Φ h9) (fun c1 => ?_) (fun c1 => ?_)
  · have h := h.1 c1
    refine q_if_eq (tgt := 15) dX11_past_4 (by decide) (fun c => absurd c (by decide)) (fun _ => ?_)
    refine q_aload_n dX11_past_7 rfl ?_
    refine q_iload_n dX11_past_8 rfl ?_
    refine q_cVb (C := ¬ p2 < 0 ∧ ¬ (σ 1 9) < p2) (d' := 1) [.int p2] [] dX11_past_9 ok_X11_isMonth mk_RX11_164 rc_0 rfl (Nat.le_of_ble_eq_true rfl) (by first | decide | omega) (fun Φ h9 => c_X11_isMonth (σ := σ) Φ h9) (fun c2 => ?_) (fun c2 => ?_)
    · have h := h.1 c2
      refine q_if_ne (tgt := 18) dX11_past_12 (by decide) (fun _ => ?_) (fun c => absurd c (by decide))
      refine q_aload_n dX11_past_18 rfl ?_
      refine q_getR dX11_past_19 fF_RX11_38 fl_0_5 ?_
      refine q_iload_n dX11_past_22 rfl ?_
      refine q_cV (d' := 2) [.int p2] [] dX11_past_23 ok_X2_look mk_RX11_140 rc_116 rfl (Nat.le_of_ble_eq_true rfl) (by first | decide | omega) h (fun v σ3 h => ?_)
      obtain ⟨rfl, h⟩ := h
      refine q_aload_n dX11_past_26 rfl ?_
      refine q_getR dX11_past_27 fF_RX11_38 fl_0_5 ?_
      refine q_getR dX11_past_30 fF_RX11_170 fl_116_6 ?_
      refine q_iload_n dX11_past_33 rfl ?_
      obtain ⟨hi4, h⟩ := h
      refine q_ialdX (v := (σ3 120 p1.toNatClampNeg)) dX11_past_34 ar_120 hi4 rfl ?_
      exact q_iret .int rfl rfl dX11_past_35 h
    · have h := h.2 c2
      refine q_if_ne (tgt := 18) dX11_past_12 (by decide) (fun c => absurd rfl c) (fun _ => ?_)
      refine q_ldc dX11_past_15 ct_RX11_70 ?_
      exact q_iret .int rfl rfl dX11_past_17 h
  · have h := h.2 c1
    refine q_if_eq (tgt := 15) dX11_past_4 (by decide) (fun _ => ?_) (fun c => absurd (by decide) c)
    refine q_ldc dX11_past_15 ct_RX11_70 ?_
    exact q_iret .int rfl rfl dX11_past_17 h

theorem s_X11_take_0 (g : vt_GT) (σ : vt_Sg) (P : Option Value → vt_Sg → Prop) (p1 : Int32) (p2 : Int32) (p3 : Int32)
  (h : ((¬ p1 < 0 ∧ ¬ (σ 7 7) ≤ p1) → ((¬ p2 < 0 ∧ ¬ (σ 1 9) < p2) → ((¬ p3 < (-99999 : Int32) ∧ ¬ (99999 : Int32) < p3) → ((σ 19 5) < 100 → vt_Mi g 0 D_X5_add [.ref (g.2.1 19), .int p1, .int p2, .int p3, .int (σ 1 9)] σ (fun r6 σ5 => P (some (.int r6)) σ5)) ∧ (¬ (σ 19 5) < 100 → P (some (.int (-1000000003))) σ)) ∧ (¬ (¬ p3 < (-99999 : Int32) ∧ ¬ (99999 : Int32) < p3) → P (some (.int (-1000000001))) σ)) ∧ (¬ (¬ p2 < 0 ∧ ¬ (σ 1 9) < p2) → P (some (.int (-1000000001))) σ)) ∧ (¬ (¬ p1 < 0 ∧ ¬ (σ 7 7) ≤ p1) → P (some (.int (-1000000001))) σ)) :
  TT g (vt_R 2) 0 0 D_X11_take none 0 [some (.ref (g.2.1 0)), some (.int p1), some (.int p2), some (.int p3)] [] σ P := by
  refine q_aload_n dX11_take_0 rfl ?_
  refine q_getR dX11_take_1 fF_RX11_10 fl_0_0 ?_
  refine q_getR dX11_take_4 fF_RX11_122 fl_1_3 ?_
  refine q_iload_n dX11_take_7 rfl ?_
  refine q_cVb (C := ¬ p1 < 0 ∧ ¬ (σ 7 7) ≤ p1) (d' := 0) [.int p1] [] dX11_take_8 ok_X10_has mk_RX11_132 rc_7 rfl (Nat.le_of_ble_eq_true rfl) (by first | decide | omega) (fun Φ h9 => c_X10_has (σ := σ) Φ h9) (fun c1 => ?_) (fun c1 => ?_)
  · have h := h.1 c1
    refine q_if_eq (tgt := 33) dX11_take_11 (by decide) (fun c => absurd c (by decide)) (fun _ => ?_)
    refine q_aload_n dX11_take_14 rfl ?_
    refine q_iload_n dX11_take_15 rfl ?_
    refine q_cVb (C := ¬ p2 < 0 ∧ ¬ (σ 1 9) < p2) (d' := 1) [.int p2] [] dX11_take_16 ok_X11_isMonth mk_RX11_164 rc_0 rfl (Nat.le_of_ble_eq_true rfl) (by first | decide | omega) (fun Φ h9 => c_X11_isMonth (σ := σ) Φ h9) (fun c2 => ?_) (fun c2 => ?_)
    · have h := h.1 c2
      refine q_if_eq (tgt := 33) dX11_take_19 (by decide) (fun c => absurd c (by decide)) (fun _ => ?_)
      refine q_iload_n dX11_take_22 rfl ?_
      refine q_ldc dX11_take_23 ct_RX11_189 ?_
      refine q_ldc dX11_take_25 ct_RX11_121 ?_
      refine q_cSb (C := ¬ p3 < (-99999 : Int32) ∧ ¬ (99999 : Int32) < p3) (d' := 0) [.int p3, .int (-99999), .int 99999] [] dX11_take_27 ok_X11_within mk_RX11_117 rfl (Nat.le_of_ble_eq_true rfl) (by first | decide | omega) (fun Φ h9 => c_X11_within (σ := σ) Φ h9) (fun c3 => ?_) (fun c3 => ?_)
      · have h := h.1 c3
        refine q_if_ne (tgt := 36) dX11_take_30 (by decide) (fun _ => ?_) (fun c => absurd c (by decide))
        refine q_aload_n dX11_take_36 rfl ?_
        refine q_getR dX11_take_37 fF_RX11_10 fl_0_0 ?_
        refine q_getR dX11_take_40 fF_RX11_190 fl_1_5 ?_
        refine q_getX (x := (σ 19 5)) dX11_take_43 fF_RX11_194 fl_19_5 rfl ?_
        refine q_bipush (v := 100) dX11_take_46 (by decide) ?_
        refine q_icmp_lt (tgt := 54) dX11_take_48 (by decide) (fun c4 => ?_) (fun c4 => ?_)
        · have h := h.1 c4
          refine q_aload_n dX11_take_54 rfl ?_
          refine q_getR dX11_take_55 fF_RX11_10 fl_0_0 ?_
          refine q_getR dX11_take_58 fF_RX11_190 fl_1_5 ?_
          refine q_iload_n dX11_take_61 rfl ?_
          refine q_iload_n dX11_take_62 rfl ?_
          refine q_iload_n dX11_take_63 rfl ?_
          refine q_aload_n dX11_take_64 rfl ?_
          refine q_getR dX11_take_65 fF_RX11_10 fl_0_0 ?_
          refine q_getX (x := (σ 1 9)) dX11_take_68 fF_RX11_137 fl_1_9 rfl ?_
          refine q_cV (d' := 0) [.int p1, .int p2, .int p3, .int (σ 1 9)] [] dX11_take_71 ok_X5_add mk_RX11_197 rc_19 rfl (Nat.le_of_ble_eq_true rfl) (by first | decide | omega) h (fun v σ5 h => ?_)
          obtain ⟨r6, rfl, h⟩ := h
          exact q_iret .int rfl rfl dX11_take_74 h
        · have h := h.2 c4
          refine q_ldc dX11_take_51 ct_RX11_107 ?_
          exact q_iret .int rfl rfl dX11_take_53 h
      · have h := h.2 c3
        refine q_if_ne (tgt := 36) dX11_take_30 (by decide) (fun c => absurd rfl c) (fun _ => ?_)
        refine q_ldc dX11_take_33 ct_RX11_70 ?_
        exact q_iret .int rfl rfl dX11_take_35 h
    · have h := h.2 c2
      refine q_if_eq (tgt := 33) dX11_take_19 (by decide) (fun _ => ?_) (fun c => absurd (by decide) c)
      refine q_ldc dX11_take_33 ct_RX11_70 ?_
      exact q_iret .int rfl rfl dX11_take_35 h
  · have h := h.2 c1
    refine q_if_eq (tgt := 33) dX11_take_11 (by decide) (fun _ => ?_) (fun c => absurd (by decide) c)
    refine q_ldc dX11_take_33 ct_RX11_70 ?_
    exact q_iret .int rfl rfl dX11_take_35 h

theorem s_X11_withdraw_0 (g : vt_GT) (σ : vt_Sg) (P : Option Value → vt_Sg → Prop) (p1 : Int32)
  (h : ((¬ p1 < 0 ∧ ¬ (σ 19 5) ≤ p1) → vp_in p1 100 ∧ (((σ 24 p1.toNatClampNeg) = (-1000000005) → P (some (.int 1)) (su σ 24 (upd (σ 24) p1.toNatClampNeg (σ 1 9)))) ∧ (¬ (σ 24 p1.toNatClampNeg) = (-1000000005) → P (some (.int (-1000000002))) σ))) ∧ (¬ (¬ p1 < 0 ∧ ¬ (σ 19 5) ≤ p1) → P (some (.int (-1000000001))) σ)) :
  TT g (vt_R 1) 0 0 D_X11_withdraw none 0 [some (.ref (g.2.1 0)), some (.int p1)] [] σ P := by
  refine q_aload_n dX11_withdraw_0 rfl ?_
  refine q_getR dX11_withdraw_1 fF_RX11_10 fl_0_0 ?_
  refine q_getR dX11_withdraw_4 fF_RX11_190 fl_1_5 ?_
  refine q_iload_n dX11_withdraw_7 rfl ?_
  refine q_cVb (C := ¬ p1 < 0 ∧ ¬ (σ 19 5) ≤ p1) (d' := 0) [.int p1] [] dX11_withdraw_8 ok_X5_has mk_RX11_200 rc_19 rfl (Nat.le_of_ble_eq_true rfl) (by first | decide | omega) (fun Φ h9 => c_X5_has (σ := σ) Φ h9) (fun c1 => ?_) (fun c1 => ?_)
  · have h := h.1 c1
    refine q_if_ne (tgt := 17) dX11_withdraw_11 (by decide) (fun _ => ?_) (fun c => absurd c (by decide))
    refine q_aload_n dX11_withdraw_17 rfl ?_
    refine q_getR dX11_withdraw_18 fF_RX11_10 fl_0_0 ?_
    refine q_getR dX11_withdraw_21 fF_RX11_190 fl_1_5 ?_
    refine q_getR dX11_withdraw_24 fF_RX11_201 fl_19_4 ?_
    refine q_iload_n dX11_withdraw_27 rfl ?_
    obtain ⟨hi2, h⟩ := h
    refine q_ialdX (v := (σ 24 p1.toNatClampNeg)) dX11_withdraw_28 ar_24 hi2 rfl ?_
    refine q_ldc dX11_withdraw_29 ct_RX11_136 ?_
    refine q_icmp_eq (tgt := 37) dX11_withdraw_31 (by decide) (fun c3 => ?_) (fun c3 => ?_)
    · have h := h.1 c3
      refine q_aload_n dX11_withdraw_37 rfl ?_
      refine q_getR dX11_withdraw_38 fF_RX11_10 fl_0_0 ?_
      refine q_getR dX11_withdraw_41 fF_RX11_190 fl_1_5 ?_
      refine q_getR dX11_withdraw_44 fF_RX11_201 fl_19_4 ?_
      refine q_iload_n dX11_withdraw_47 rfl ?_
      refine q_aload_n dX11_withdraw_48 rfl ?_
      refine q_getR dX11_withdraw_49 fF_RX11_10 fl_0_0 ?_
      refine q_getX (x := (σ 1 9)) dX11_withdraw_52 fF_RX11_137 fl_1_9 rfl ?_
      refine q_iastX (F := upd (σ 24) p1.toNatClampNeg (σ 1 9)) dX11_withdraw_55 ar_24 hi2 rfl ?_
      refine q_iconst (v := 1) dX11_withdraw_56 (by decide) ?_
      exact q_iret .int rfl rfl dX11_withdraw_57 h
    · have h := h.2 c3
      refine q_ldc dX11_withdraw_34 ct_RX11_150 ?_
      exact q_iret .int rfl rfl dX11_withdraw_36 h
  · have h := h.2 c1
    refine q_if_ne (tgt := 17) dX11_withdraw_11 (by decide) (fun c => absurd rfl c) (fun _ => ?_)
    refine q_ldc dX11_withdraw_14 ct_RX11_70 ?_
    exact q_iret .int rfl rfl dX11_withdraw_16 h

theorem s_X11_line_0 (g : vt_GT) (σ : vt_Sg) (P : Option Value → vt_Sg → Prop) (p1 : Int32) (p2 : Int32)
  (h : ((¬ p1 < 0 ∧ ¬ (σ 19 5) ≤ p1) → ((¬ p2 < (0 : Int32) ∧ ¬ (4 : Int32) < p2) → (p2 = 0 → vp_in p1 100 ∧ (P (some (.int (σ 20 p1.toNatClampNeg))) σ)) ∧ (¬ p2 = 0 → (p2 = 1 → vp_in p1 100 ∧ (P (some (.int (σ 21 p1.toNatClampNeg))) σ)) ∧ (¬ p2 = 1 → (p2 = 2 → vp_in p1 100 ∧ (P (some (.int (σ 22 p1.toNatClampNeg))) σ)) ∧ (¬ p2 = 2 → (p2 = 3 → vp_in p1 100 ∧ (P (some (.int (σ 23 p1.toNatClampNeg))) σ)) ∧ (¬ p2 = 3 → vp_in p1 100 ∧ (P (some (.int (σ 24 p1.toNatClampNeg))) σ)))))) ∧ (¬ (¬ p2 < (0 : Int32) ∧ ¬ (4 : Int32) < p2) → P (some (.int (-1000000001))) σ)) ∧ (¬ (¬ p1 < 0 ∧ ¬ (σ 19 5) ≤ p1) → P (some (.int (-1000000001))) σ)) :
  TT g (vt_R 1) 0 0 D_X11_line none 0 [some (.ref (g.2.1 0)), some (.int p1), some (.int p2)] [] σ P := by
  refine q_aload_n dX11_line_0 rfl ?_
  refine q_getR dX11_line_1 fF_RX11_10 fl_0_0 ?_
  refine q_getR dX11_line_4 fF_RX11_190 fl_1_5 ?_
  refine q_iload_n dX11_line_7 rfl ?_
  refine q_cVb (C := ¬ p1 < 0 ∧ ¬ (σ 19 5) ≤ p1) (d' := 0) [.int p1] [] dX11_line_8 ok_X5_has mk_RX11_200 rc_19 rfl (Nat.le_of_ble_eq_true rfl) (by first | decide | omega) (fun Φ h9 => c_X5_has (σ := σ) Φ h9) (fun c1 => ?_) (fun c1 => ?_)
  · have h := h.1 c1
    refine q_if_eq (tgt := 23) dX11_line_11 (by decide) (fun c => absurd c (by decide)) (fun _ => ?_)
    refine q_iload_n dX11_line_14 rfl ?_
    refine q_iconst (v := 0) dX11_line_15 (by decide) ?_
    refine q_iconst (v := 4) dX11_line_16 (by decide) ?_
    refine q_cSb (C := ¬ p2 < (0 : Int32) ∧ ¬ (4 : Int32) < p2) (d' := 0) [.int p2, .int 0, .int 4] [] dX11_line_17 ok_X11_within mk_RX11_117 rfl (Nat.le_of_ble_eq_true rfl) (by first | decide | omega) (fun Φ h9 => c_X11_within (σ := σ) Φ h9) (fun c2 => ?_) (fun c2 => ?_)
    · have h := h.1 c2
      refine q_if_ne (tgt := 26) dX11_line_20 (by decide) (fun _ => ?_) (fun c => absurd c (by decide))
      refine q_iload_n dX11_line_26 rfl ?_
      by_cases n27_0 : p2 = 0
      · have h := h.1 n27_0
        refine q_tabE (kk := 0) n27_0 (tgt := 56) (off := 29) dX11_line_27 (by decide) (by decide) rfl (by decide) ?_
        refine q_aload_n dX11_line_56 rfl ?_
        refine q_getR dX11_line_57 fF_RX11_10 fl_0_0 ?_
        refine q_getR dX11_line_60 fF_RX11_190 fl_1_5 ?_
        refine q_getR dX11_line_63 fF_RX11_204 fl_19_0 ?_
        refine q_iload_n dX11_line_66 rfl ?_
        obtain ⟨hi7, h⟩ := h
        refine q_ialdX (v := (σ 20 p1.toNatClampNeg)) dX11_line_67 ar_20 hi7 rfl ?_
        exact q_iret .int rfl rfl dX11_line_68 h
      · have h := h.2 n27_0
        by_cases n27_1 : p2 = 1
        · have h := h.1 n27_1
          refine q_tabE (kk := 1) n27_1 (tgt := 69) (off := 42) dX11_line_27 (by decide) (by decide) rfl (by decide) ?_
          refine q_aload_n dX11_line_69 rfl ?_
          refine q_getR dX11_line_70 fF_RX11_10 fl_0_0 ?_
          refine q_getR dX11_line_73 fF_RX11_190 fl_1_5 ?_
          refine q_getR dX11_line_76 fF_RX11_207 fl_19_1 ?_
          refine q_iload_n dX11_line_79 rfl ?_
          obtain ⟨hi6, h⟩ := h
          refine q_ialdX (v := (σ 21 p1.toNatClampNeg)) dX11_line_80 ar_21 hi6 rfl ?_
          exact q_iret .int rfl rfl dX11_line_81 h
        · have h := h.2 n27_1
          by_cases n27_2 : p2 = 2
          · have h := h.1 n27_2
            refine q_tabE (kk := 2) n27_2 (tgt := 82) (off := 55) dX11_line_27 (by decide) (by decide) rfl (by decide) ?_
            refine q_aload_n dX11_line_82 rfl ?_
            refine q_getR dX11_line_83 fF_RX11_10 fl_0_0 ?_
            refine q_getR dX11_line_86 fF_RX11_190 fl_1_5 ?_
            refine q_getR dX11_line_89 fF_RX11_210 fl_19_2 ?_
            refine q_iload_n dX11_line_92 rfl ?_
            obtain ⟨hi5, h⟩ := h
            refine q_ialdX (v := (σ 22 p1.toNatClampNeg)) dX11_line_93 ar_22 hi5 rfl ?_
            exact q_iret .int rfl rfl dX11_line_94 h
          · have h := h.2 n27_2
            by_cases n27_3 : p2 = 3
            · have h := h.1 n27_3
              refine q_tabE (kk := 3) n27_3 (tgt := 95) (off := 68) dX11_line_27 (by decide) (by decide) rfl (by decide) ?_
              refine q_aload_n dX11_line_95 rfl ?_
              refine q_getR dX11_line_96 fF_RX11_10 fl_0_0 ?_
              refine q_getR dX11_line_99 fF_RX11_190 fl_1_5 ?_
              refine q_getR dX11_line_102 fF_RX11_213 fl_19_3 ?_
              refine q_iload_n dX11_line_105 rfl ?_
              obtain ⟨hi4, h⟩ := h
              refine q_ialdX (v := (σ 23 p1.toNatClampNeg)) dX11_line_106 ar_23 hi4 rfl ?_
              exact q_iret .int rfl rfl dX11_line_107 h
            · have h := h.2 n27_3
              refine q_tabOut (tgt := 108) dX11_line_27 (by have z0 := lv_neT (a := 0) n27_0 (by decide); have z1 := lv_neT (a := 1) n27_1 (by decide); have z2 := lv_neT (a := 2) n27_2 (by decide); have z3 := lv_neT (a := 3) n27_3 (by decide); omega) (by decide) ?_
              refine q_aload_n dX11_line_108 rfl ?_
              refine q_getR dX11_line_109 fF_RX11_10 fl_0_0 ?_
              refine q_getR dX11_line_112 fF_RX11_190 fl_1_5 ?_
              refine q_getR dX11_line_115 fF_RX11_201 fl_19_4 ?_
              refine q_iload_n dX11_line_118 rfl ?_
              obtain ⟨hi3, h⟩ := h
              refine q_ialdX (v := (σ 24 p1.toNatClampNeg)) dX11_line_119 ar_24 hi3 rfl ?_
              exact q_iret .int rfl rfl dX11_line_120 h
    · have h := h.2 c2
      refine q_if_ne (tgt := 26) dX11_line_20 (by decide) (fun c => absurd rfl c) (fun _ => ?_)
      refine q_ldc dX11_line_23 ct_RX11_70 ?_
      exact q_iret .int rfl rfl dX11_line_25 h
  · have h := h.2 c1
    refine q_if_eq (tgt := 23) dX11_line_11 (by decide) (fun _ => ?_) (fun c => absurd (by decide) c)
    refine q_ldc dX11_line_23 ct_RX11_70 ?_
    exact q_iret .int rfl rfl dX11_line_25 h

theorem s_X11_takings_0 (g : vt_GT) (σ : vt_Sg) (P : Option Value → vt_Sg → Prop) (p1 : Int32) (p2 : Int32) (p3 : Int32)
  (h : ((¬ p1 < 0 ∧ ¬ (σ 7 7) ≤ p1) → ((¬ p2 < 0 ∧ ¬ (σ 1 9) < p2) → ((¬ p3 < 0 ∧ ¬ (σ 1 9) < p3) → vt_Mi g 1 D_X5_sum [.ref (g.2.1 19), .int p1, .int p2, .int p3] σ (fun r5 σ4 => P (some (.int r5)) σ4)) ∧ (¬ (¬ p3 < 0 ∧ ¬ (σ 1 9) < p3) → P (some (.int (-1000000001))) σ)) ∧ (¬ (¬ p2 < 0 ∧ ¬ (σ 1 9) < p2) → P (some (.int (-1000000001))) σ)) ∧ (¬ (¬ p1 < 0 ∧ ¬ (σ 7 7) ≤ p1) → P (some (.int (-1000000001))) σ)) :
  TT g (vt_R 2) 0 0 D_X11_takings none 0 [some (.ref (g.2.1 0)), some (.int p1), some (.int p2), some (.int p3)] [] σ P := by
  refine q_aload_n dX11_takings_0 rfl ?_
  refine q_getR dX11_takings_1 fF_RX11_10 fl_0_0 ?_
  refine q_getR dX11_takings_4 fF_RX11_122 fl_1_3 ?_
  refine q_iload_n dX11_takings_7 rfl ?_
  refine q_cVb (C := ¬ p1 < 0 ∧ ¬ (σ 7 7) ≤ p1) (d' := 0) [.int p1] [] dX11_takings_8 ok_X10_has mk_RX11_132 rc_7 rfl (Nat.le_of_ble_eq_true rfl) (by first | decide | omega) (fun Φ h9 => c_X10_has (σ := σ) Φ h9) (fun c1 => ?_) (fun c1 => ?_)
  · have h := h.1 c1
    refine q_if_eq (tgt := 30) dX11_takings_11 (by decide) (fun c => absurd c (by decide)) (fun _ => ?_)
    refine q_aload_n dX11_takings_14 rfl ?_
    refine q_iload_n dX11_takings_15 rfl ?_
    refine q_cVb (C := ¬ p2 < 0 ∧ ¬ (σ 1 9) < p2) (d' := 1) [.int p2] [] dX11_takings_16 ok_X11_isMonth mk_RX11_164 rc_0 rfl (Nat.le_of_ble_eq_true rfl) (by first | decide | omega) (fun Φ h9 => c_X11_isMonth (σ := σ) Φ h9) (fun c2 => ?_) (fun c2 => ?_)
    · have h := h.1 c2
      refine q_if_eq (tgt := 30) dX11_takings_19 (by decide) (fun c => absurd c (by decide)) (fun _ => ?_)
      refine q_aload_n dX11_takings_22 rfl ?_
      refine q_iload_n dX11_takings_23 rfl ?_
      refine q_cVb (C := ¬ p3 < 0 ∧ ¬ (σ 1 9) < p3) (d' := 1) [.int p3] [] dX11_takings_24 ok_X11_isMonth mk_RX11_164 rc_0 rfl (Nat.le_of_ble_eq_true rfl) (by first | decide | omega) (fun Φ h9 => c_X11_isMonth (σ := σ) Φ h9) (fun c3 => ?_) (fun c3 => ?_)
      · have h := h.1 c3
        refine q_if_ne (tgt := 33) dX11_takings_27 (by decide) (fun _ => ?_) (fun c => absurd c (by decide))
        refine q_aload_n dX11_takings_33 rfl ?_
        refine q_getR dX11_takings_34 fF_RX11_10 fl_0_0 ?_
        refine q_getR dX11_takings_37 fF_RX11_190 fl_1_5 ?_
        refine q_iload_n dX11_takings_40 rfl ?_
        refine q_iload_n dX11_takings_41 rfl ?_
        refine q_iload_n dX11_takings_42 rfl ?_
        refine q_cV (d' := 1) [.int p1, .int p2, .int p3] [] dX11_takings_43 ok_X5_sum mk_RX11_216 rc_19 rfl (Nat.le_of_ble_eq_true rfl) (by first | decide | omega) h (fun v σ4 h => ?_)
        obtain ⟨r5, rfl, h⟩ := h
        exact q_iret .int rfl rfl dX11_takings_46 h
      · have h := h.2 c3
        refine q_if_ne (tgt := 33) dX11_takings_27 (by decide) (fun c => absurd rfl c) (fun _ => ?_)
        refine q_ldc dX11_takings_30 ct_RX11_70 ?_
        exact q_iret .int rfl rfl dX11_takings_32 h
    · have h := h.2 c2
      refine q_if_eq (tgt := 30) dX11_takings_19 (by decide) (fun _ => ?_) (fun c => absurd (by decide) c)
      refine q_ldc dX11_takings_30 ct_RX11_70 ?_
      exact q_iret .int rfl rfl dX11_takings_32 h
  · have h := h.2 c1
    refine q_if_eq (tgt := 30) dX11_takings_11 (by decide) (fun _ => ?_) (fun c => absurd (by decide) c)
    refine q_ldc dX11_takings_30 ct_RX11_70 ?_
    exact q_iret .int rfl rfl dX11_takings_32 h

theorem s_X11_beyond_0 (g : vt_GT) (σ : vt_Sg) (P : Option Value → vt_Sg → Prop) (p1 : Int32) (p2 : Int32) (p3 : Int32)
  (h : ((¬ p1 < 0 ∧ ¬ (σ 7 7) ≤ p1) → ((¬ p2 < 0 ∧ ¬ (σ 1 9) < p2) → ((¬ p3 < 0 ∧ ¬ (σ 1 9) < p3) → vt_Mv g 2 D_X2_look [.ref (g.2.1 116), .int p2] σ (fun σ4 => vp_in p1 12 ∧ ((¬ (σ4 117 p1.toNatClampNeg) = (-1000000005) → vt_Mi g 0 D_X2_foretold [.ref (g.2.1 116), .int p1] σ4 (fun r8 σ7 => vt_Mi g 1 D_X5_sum [.ref (g.2.1 19), .int p1, .int p2, .int p3] σ7 (fun r10 σ9 => (0 ≤ (lg_cmp r10.toInt64 ((r8.toInt64 * ((σ9 3 0).toInt64)) / 100)) → ((lg_cmp r10.toInt64 ((r8.toInt64 * ((σ9 3 1).toInt64)) / 100)) ≤ 0 → P (some (.int 0)) σ9) ∧ (¬ (lg_cmp r10.toInt64 ((r8.toInt64 * ((σ9 3 1).toInt64)) / 100)) ≤ 0 → P (some (.int 1)) σ9)) ∧ (¬ 0 ≤ (lg_cmp r10.toInt64 ((r8.toInt64 * ((σ9 3 0).toInt64)) / 100)) → P (some (.int (-1))) σ9)))) ∧ ((σ4 117 p1.toNatClampNeg) = (-1000000005) → P (some (.int (-1000000002))) σ4)))) ∧ (¬ (¬ p3 < 0 ∧ ¬ (σ 1 9) < p3) → P (some (.int (-1000000001))) σ)) ∧ (¬ (¬ p2 < 0 ∧ ¬ (σ 1 9) < p2) → P (some (.int (-1000000001))) σ)) ∧ (¬ (¬ p1 < 0 ∧ ¬ (σ 7 7) ≤ p1) → P (some (.int (-1000000001))) σ)) :
  TT g (vt_R 3) 0 0 D_X11_beyond none 0 [some (.ref (g.2.1 0)), some (.int p1), some (.int p2), some (.int p3), none, none, none, none] [] σ P := by
  refine q_aload_n dX11_beyond_0 rfl ?_
  refine q_getR dX11_beyond_1 fF_RX11_10 fl_0_0 ?_
  refine q_getR dX11_beyond_4 fF_RX11_122 fl_1_3 ?_
  refine q_iload_n dX11_beyond_7 rfl ?_
  refine q_cVb (C := ¬ p1 < 0 ∧ ¬ (σ 7 7) ≤ p1) (d' := 0) [.int p1] [] dX11_beyond_8 ok_X10_has mk_RX11_132 rc_7 rfl (Nat.le_of_ble_eq_true rfl) (by first | decide | omega) (fun Φ h9 => c_X10_has (σ := σ) Φ h9) (fun c1 => ?_) (fun c1 => ?_)
  · have h := h.1 c1
    refine q_if_eq (tgt := 30) dX11_beyond_11 (by decide) (fun c => absurd c (by decide)) (fun _ => ?_)
    refine q_aload_n dX11_beyond_14 rfl ?_
    refine q_iload_n dX11_beyond_15 rfl ?_
    refine q_cVb (C := ¬ p2 < 0 ∧ ¬ (σ 1 9) < p2) (d' := 1) [.int p2] [] dX11_beyond_16 ok_X11_isMonth mk_RX11_164 rc_0 rfl (Nat.le_of_ble_eq_true rfl) (by first | decide | omega) (fun Φ h9 => c_X11_isMonth (σ := σ) Φ h9) (fun c2 => ?_) (fun c2 => ?_)
    · have h := h.1 c2
      refine q_if_eq (tgt := 30) dX11_beyond_19 (by decide) (fun c => absurd c (by decide)) (fun _ => ?_)
      refine q_aload_n dX11_beyond_22 rfl ?_
      refine q_iload_n dX11_beyond_23 rfl ?_
      refine q_cVb (C := ¬ p3 < 0 ∧ ¬ (σ 1 9) < p3) (d' := 1) [.int p3] [] dX11_beyond_24 ok_X11_isMonth mk_RX11_164 rc_0 rfl (Nat.le_of_ble_eq_true rfl) (by first | decide | omega) (fun Φ h9 => c_X11_isMonth (σ := σ) Φ h9) (fun c3 => ?_) (fun c3 => ?_)
      · have h := h.1 c3
        refine q_if_ne (tgt := 33) dX11_beyond_27 (by decide) (fun _ => ?_) (fun c => absurd c (by decide))
        refine q_aload_n dX11_beyond_33 rfl ?_
        refine q_getR dX11_beyond_34 fF_RX11_38 fl_0_5 ?_
        refine q_iload_n dX11_beyond_37 rfl ?_
        refine q_cV (d' := 2) [.int p2] [] dX11_beyond_38 ok_X2_look mk_RX11_140 rc_116 rfl (Nat.le_of_ble_eq_true rfl) (by first | decide | omega) h (fun v σ4 h => ?_)
        obtain ⟨rfl, h⟩ := h
        refine q_aload_n dX11_beyond_41 rfl ?_
        refine q_getR dX11_beyond_42 fF_RX11_38 fl_0_5 ?_
        refine q_getR dX11_beyond_45 fF_RX11_144 fl_116_3 ?_
        refine q_iload_n dX11_beyond_48 rfl ?_
        obtain ⟨hi5, h⟩ := h
        refine q_ialdX (v := (σ4 117 p1.toNatClampNeg)) dX11_beyond_49 ar_117 hi5 rfl ?_
        refine q_ldc dX11_beyond_50 ct_RX11_136 ?_
        refine q_icmp_ne (tgt := 58) dX11_beyond_52 (by decide) (fun c6 => ?_) (fun c6 => ?_)
        · have h := h.1 c6
          refine q_aload_n dX11_beyond_58 rfl ?_
          refine q_getR dX11_beyond_59 fF_RX11_38 fl_0_5 ?_
          refine q_iload_n dX11_beyond_62 rfl ?_
          refine q_cV (d' := 0) [.int p1] [] dX11_beyond_63 ok_X2_foretold mk_RX11_173 rc_116 rfl (Nat.le_of_ble_eq_true rfl) (by first | decide | omega) h (fun v σ7 h => ?_)
          obtain ⟨r8, rfl, h⟩ := h
          refine q_i2l dX11_beyond_66 ?_
          refine q_lstore (L' := [some (.ref (g.2.1 0)), some (.int p1), some (.int p2), some (.int p3), some (.long r8.toInt64), none, none, none]) dX11_beyond_67 (by decide) rfl rfl ?_
          refine q_aload_n dX11_beyond_69 rfl ?_
          refine q_getR dX11_beyond_70 fF_RX11_10 fl_0_0 ?_
          refine q_getR dX11_beyond_73 fF_RX11_190 fl_1_5 ?_
          refine q_iload_n dX11_beyond_76 rfl ?_
          refine q_iload_n dX11_beyond_77 rfl ?_
          refine q_iload_n dX11_beyond_78 rfl ?_
          refine q_cV (d' := 1) [.int p1, .int p2, .int p3] [] dX11_beyond_79 ok_X5_sum mk_RX11_216 rc_19 rfl (Nat.le_of_ble_eq_true rfl) (by first | decide | omega) h (fun v σ9 h => ?_)
          obtain ⟨r10, rfl, h⟩ := h
          refine q_i2l dX11_beyond_82 ?_
          refine q_lstore (L' := [some (.ref (g.2.1 0)), some (.int p1), some (.int p2), some (.int p3), some (.long r8.toInt64), none, some (.long r10.toInt64), none]) dX11_beyond_83 (by decide) rfl rfl ?_
          refine q_lload dX11_beyond_85 rfl ?_
          refine q_lload dX11_beyond_87 rfl ?_
          refine q_aload_n dX11_beyond_89 rfl ?_
          refine q_getR dX11_beyond_90 fF_RX11_10 fl_0_0 ?_
          refine q_getR dX11_beyond_93 fF_RX11_161 fl_1_1 ?_
          refine q_iconst (v := 0) dX11_beyond_96 (by decide) ?_
          refine q_ialdX (v := (σ9 3 0)) dX11_beyond_97 ar_3 (vt_inl rfl) rfl ?_
          refine q_i2l dX11_beyond_98 ?_
          refine q_lmul dX11_beyond_99 ?_
          refine q_ldc2 dX11_beyond_100 cl_RX11_220 ?_
          refine q_ldiv dX11_beyond_103 (by decide) ?_
          refine q_lcmp dX11_beyond_104 ?_
          refine q_if_ge (tgt := 110) dX11_beyond_105 (by decide) (fun c11 => ?_) (fun c11 => ?_)
          · have h := h.1 c11
            refine q_lload dX11_beyond_110 rfl ?_
            refine q_lload dX11_beyond_112 rfl ?_
            refine q_aload_n dX11_beyond_114 rfl ?_
            refine q_getR dX11_beyond_115 fF_RX11_10 fl_0_0 ?_
            refine q_getR dX11_beyond_118 fF_RX11_161 fl_1_1 ?_
            refine q_iconst (v := 1) dX11_beyond_121 (by decide) ?_
            refine q_ialdX (v := (σ9 3 1)) dX11_beyond_122 ar_3 (vt_inl rfl) rfl ?_
            refine q_i2l dX11_beyond_123 ?_
            refine q_lmul dX11_beyond_124 ?_
            refine q_ldc2 dX11_beyond_125 cl_RX11_220 ?_
            refine q_ldiv dX11_beyond_128 (by decide) ?_
            refine q_lcmp dX11_beyond_129 ?_
            refine q_if_le (tgt := 137) dX11_beyond_130 (by decide) (fun c12 => ?_) (fun c12 => ?_)
            · have h := h.1 c12
              refine q_iconst (v := 0) dX11_beyond_137 (by decide) ?_
              exact q_iret .int rfl rfl dX11_beyond_138 h
            · have h := h.2 c12
              refine q_iconst (v := 1) dX11_beyond_133 (by decide) ?_
              refine q_goto (tgt := 138) dX11_beyond_134 (by decide) ?_
              exact q_iret .int rfl rfl dX11_beyond_138 h
          · have h := h.2 c11
            refine q_iconst (v := (-1)) dX11_beyond_108 (by decide) ?_
            exact q_iret .int rfl rfl dX11_beyond_109 h
        · have h := h.2 c6
          refine q_ldc dX11_beyond_55 ct_RX11_150 ?_
          exact q_iret .int rfl rfl dX11_beyond_57 h
      · have h := h.2 c3
        refine q_if_ne (tgt := 33) dX11_beyond_27 (by decide) (fun c => absurd rfl c) (fun _ => ?_)
        refine q_ldc dX11_beyond_30 ct_RX11_70 ?_
        exact q_iret .int rfl rfl dX11_beyond_32 h
    · have h := h.2 c2
      refine q_if_eq (tgt := 30) dX11_beyond_19 (by decide) (fun _ => ?_) (fun c => absurd (by decide) c)
      refine q_ldc dX11_beyond_30 ct_RX11_70 ?_
      exact q_iret .int rfl rfl dX11_beyond_32 h
  · have h := h.2 c1
    refine q_if_eq (tgt := 30) dX11_beyond_11 (by decide) (fun _ => ?_) (fun c => absurd (by decide) c)
    refine q_ldc dX11_beyond_30 ct_RX11_70 ?_
    exact q_iret .int rfl rfl dX11_beyond_32 h

theorem s_X11_feed_0 (g : vt_GT) (σ : vt_Sg) (P : Option Value → vt_Sg → Prop) (p1 : Int32) (p2 : Int32) (p3 : Int32)
  (h : (((σ 107 0) + 12) ≤ 132 → vt_Mv g 0 D_X8_append [.ref (g.2.1 107), .int p1] σ (fun σ2 => vt_Mv g 0 D_X8_append [.ref (g.2.1 107), .int p2] σ2 (fun σ3 => vt_Mv g 0 D_X8_append [.ref (g.2.1 107), .int p3] σ3 (fun σ4 => P (some (.int (σ4 107 0))) σ4)))) ∧ (¬ ((σ 107 0) + 12) ≤ 132 → P (some (.int (-1000000003))) σ)) :
  TT g (vt_R 1) 0 0 D_X11_feed none 0 [some (.ref (g.2.1 0)), some (.int p1), some (.int p2), some (.int p3)] [] σ P := by
  refine q_aload_n dX11_feed_0 rfl ?_
  refine q_getR dX11_feed_1 fF_RX11_22 fl_0_3 ?_
  refine q_getX (x := (σ 107 0)) dX11_feed_4 fF_RX11_222 fl_107_0 rfl ?_
  refine q_bipush (v := 12) dX11_feed_7 (by decide) ?_
  refine q_iadd dX11_feed_9 ?_
  refine q_sipush (v := 132) dX11_feed_10 (by decide) ?_
  refine q_icmp_le (tgt := 19) dX11_feed_13 (by decide) (fun c1 => ?_) (fun c1 => ?_)
  · have h := h.1 c1
    refine q_aload_n dX11_feed_19 rfl ?_
    refine q_getR dX11_feed_20 fF_RX11_22 fl_0_3 ?_
    refine q_iload_n dX11_feed_23 rfl ?_
    refine q_cV (d' := 0) [.int p1] [] dX11_feed_24 ok_X8_append mk_RX11_225 rc_107 rfl (Nat.le_of_ble_eq_true rfl) (by first | decide | omega) h (fun v σ2 h => ?_)
    obtain ⟨rfl, h⟩ := h
    refine q_aload_n dX11_feed_27 rfl ?_
    refine q_getR dX11_feed_28 fF_RX11_22 fl_0_3 ?_
    refine q_iload_n dX11_feed_31 rfl ?_
    refine q_cV (d' := 0) [.int p2] [] dX11_feed_32 ok_X8_append mk_RX11_225 rc_107 rfl (Nat.le_of_ble_eq_true rfl) (by first | decide | omega) h (fun v σ3 h => ?_)
    obtain ⟨rfl, h⟩ := h
    refine q_aload_n dX11_feed_35 rfl ?_
    refine q_getR dX11_feed_36 fF_RX11_22 fl_0_3 ?_
    refine q_iload_n dX11_feed_39 rfl ?_
    refine q_cV (d' := 0) [.int p3] [] dX11_feed_40 ok_X8_append mk_RX11_225 rc_107 rfl (Nat.le_of_ble_eq_true rfl) (by first | decide | omega) h (fun v σ4 h => ?_)
    obtain ⟨rfl, h⟩ := h
    refine q_aload_n dX11_feed_43 rfl ?_
    refine q_getR dX11_feed_44 fF_RX11_22 fl_0_3 ?_
    refine q_getX (x := (σ4 107 0)) dX11_feed_47 fF_RX11_222 fl_107_0 rfl ?_
    exact q_iret .int rfl rfl dX11_feed_50 h
  · have h := h.2 c1
    refine q_ldc dX11_feed_16 ct_RX11_107 ?_
    exact q_iret .int rfl rfl dX11_feed_18 h

theorem s_X11_trim_0 (g : vt_GT) (σ : vt_Sg) (P : Option Value → vt_Sg → Prop) (p1 : Int32)
  (h : ((¬ p1 < (0 : Int32) ∧ ¬ (σ 107 0) < p1) → P (some (.int p1)) (su σ 107 (upd (σ 107) 0 p1))) ∧ (¬ (¬ p1 < (0 : Int32) ∧ ¬ (σ 107 0) < p1) → P (some (.int (-1000000001))) σ)) :
  TT g (vt_R 1) 0 0 D_X11_trim none 0 [some (.ref (g.2.1 0)), some (.int p1)] [] σ P := by
  refine q_iload_n dX11_trim_0 rfl ?_
  refine q_iconst (v := 0) dX11_trim_1 (by decide) ?_
  refine q_aload_n dX11_trim_2 rfl ?_
  refine q_getR dX11_trim_3 fF_RX11_22 fl_0_3 ?_
  refine q_getX (x := (σ 107 0)) dX11_trim_6 fF_RX11_222 fl_107_0 rfl ?_
  refine q_cSb (C := ¬ p1 < (0 : Int32) ∧ ¬ (σ 107 0) < p1) (d' := 0) [.int p1, .int 0, .int (σ 107 0)] [] dX11_trim_9 ok_X11_within mk_RX11_117 rfl (Nat.le_of_ble_eq_true rfl) (by first | decide | omega) (fun Φ h9 => c_X11_within (σ := σ) Φ h9) (fun c1 => ?_) (fun c1 => ?_)
  · have h := h.1 c1
    refine q_if_ne (tgt := 18) dX11_trim_12 (by decide) (fun _ => ?_) (fun c => absurd c (by decide))
    refine q_aload_n dX11_trim_18 rfl ?_
    refine q_getR dX11_trim_19 fF_RX11_22 fl_0_3 ?_
    refine q_iload_n dX11_trim_22 rfl ?_
    refine q_putX (F := upd (σ 107) 0 p1) dX11_trim_23 fF_RX11_222 fP_8_0 fl_107_0 rfl ?_
    refine q_iload_n dX11_trim_26 rfl ?_
    exact q_iret .int rfl rfl dX11_trim_27 h
  · have h := h.2 c1
    refine q_if_ne (tgt := 18) dX11_trim_12 (by decide) (fun c => absurd rfl c) (fun _ => ?_)
    refine q_ldc dX11_trim_15 ct_RX11_70 ?_
    exact q_iret .int rfl rfl dX11_trim_17 h

theorem s_X11_lease_0 (g : vt_GT) (σ : vt_Sg) (P : Option Value → vt_Sg → Prop) (p1 : Int32)
  (h : ((¬ p1 < 0 ∧ ¬ (σ 7 7) ≤ p1) → vt_Mi g 121 D_X8_findFault [.ref (g.2.1 107)] σ (fun r3 σ2 => (r3 = (-1000000005) → vt_Mv g 1 D_X4_store [.ref (g.2.1 25), .int p1, .ref (g.2.1 107)] (su σ2 107 (upd (σ2 107) 0 0)) (fun σ5 => P (some (.int (σ5 107 3))) σ5)) ∧ (¬ r3 = (-1000000005) → P (some (.int ((-100) - r3))) (su σ2 107 (upd (σ2 107) 0 0))))) ∧ (¬ (¬ p1 < 0 ∧ ¬ (σ 7 7) ≤ p1) → P (some (.int (-1000000001))) (su σ 107 (upd (σ 107) 0 0)))) :
  TT g (vt_R 122) 0 0 D_X11_lease none 0 [some (.ref (g.2.1 0)), some (.int p1), none] [] σ P := by
  refine q_aload_n dX11_lease_0 rfl ?_
  refine q_getR dX11_lease_1 fF_RX11_10 fl_0_0 ?_
  refine q_getR dX11_lease_4 fF_RX11_122 fl_1_3 ?_
  refine q_iload_n dX11_lease_7 rfl ?_
  refine q_cVb (C := ¬ p1 < 0 ∧ ¬ (σ 7 7) ≤ p1) (d' := 0) [.int p1] [] dX11_lease_8 ok_X10_has mk_RX11_132 rc_7 rfl (Nat.le_of_ble_eq_true rfl) (by first | decide | omega) (fun Φ h9 => c_X10_has (σ := σ) Φ h9) (fun c1 => ?_) (fun c1 => ?_)
  · have h := h.1 c1
    refine q_if_ne (tgt := 25) dX11_lease_11 (by decide) (fun _ => ?_) (fun c => absurd c (by decide))
    refine q_aload_n dX11_lease_25 rfl ?_
    refine q_getR dX11_lease_26 fF_RX11_22 fl_0_3 ?_
    refine q_cV (d' := 121) [] [] dX11_lease_29 ok_X8_findFault mk_RX11_228 rc_107 rfl (Nat.le_of_ble_eq_true rfl) (by first | decide | omega) h (fun v σ2 h => ?_)
    obtain ⟨r3, rfl, h⟩ := h
    refine q_istore_n (L' := [some (.ref (g.2.1 0)), some (.int p1), some (.int r3)]) dX11_lease_32 (by decide) rfl rfl ?_
    refine q_aload_n dX11_lease_33 rfl ?_
    refine q_getR dX11_lease_34 fF_RX11_22 fl_0_3 ?_
    refine q_iconst (v := 0) dX11_lease_37 (by decide) ?_
    refine q_putX (F := upd (σ2 107) 0 0) dX11_lease_38 fF_RX11_222 fP_8_0 fl_107_0 rfl ?_
    refine q_iload_n dX11_lease_41 rfl ?_
    refine q_ldc dX11_lease_42 ct_RX11_136 ?_
    refine q_icmp_eq (tgt := 52) dX11_lease_44 (by decide) (fun c4 => ?_) (fun c4 => ?_)
    · have h := h.1 c4
      refine q_aload_n dX11_lease_52 rfl ?_
      refine q_getR dX11_lease_53 fF_RX11_10 fl_0_0 ?_
      refine q_getR dX11_lease_56 fF_RX11_232 fl_1_6 ?_
      refine q_iload_n dX11_lease_59 rfl ?_
      refine q_aload_n dX11_lease_60 rfl ?_
      refine q_getR dX11_lease_61 fF_RX11_22 fl_0_3 ?_
      refine q_cV (d' := 1) [.int p1, .ref (g.2.1 107)] [] dX11_lease_64 ok_X4_store mk_RX11_236 rc_25 rfl (Nat.le_of_ble_eq_true rfl) (by first | decide | omega) h (fun v σ5 h => ?_)
      obtain ⟨rfl, h⟩ := h
      refine q_aload_n dX11_lease_67 rfl ?_
      refine q_getR dX11_lease_68 fF_RX11_22 fl_0_3 ?_
      refine q_getX (x := (σ5 107 3)) dX11_lease_71 fF_RX11_242 fl_107_3 rfl ?_
      exact q_iret .int rfl rfl dX11_lease_74 h
    · have h := h.2 c4
      refine q_bipush (v := (-100)) dX11_lease_47 (by decide) ?_
      refine q_iload_n dX11_lease_49 rfl ?_
      refine q_isub dX11_lease_50 ?_
      exact q_iret .int rfl rfl dX11_lease_51 h
  · have h := h.2 c1
    refine q_if_ne (tgt := 25) dX11_lease_11 (by decide) (fun c => absurd rfl c) (fun _ => ?_)
    refine q_aload_n dX11_lease_14 rfl ?_
    refine q_getR dX11_lease_15 fF_RX11_22 fl_0_3 ?_
    refine q_iconst (v := 0) dX11_lease_18 (by decide) ?_
    refine q_putX (F := upd (σ 107) 0 0) dX11_lease_19 fF_RX11_222 fP_8_0 fl_107_0 rfl ?_
    refine q_ldc dX11_lease_22 ct_RX11_70 ?_
    exact q_iret .int rfl rfl dX11_lease_24 h

theorem s_X11_rent_0 (g : vt_GT) (σ : vt_Sg) (P : Option Value → vt_Sg → Prop) (p1 : Int32) (p2 : Int32) (p3 : Int32)
  (h : ((¬ p1 < 0 ∧ ¬ (σ 7 7) ≤ p1) → ((¬ p2 < 0 ∧ ¬ (σ 1 9) < p2) → ((¬ p3 < 0 ∧ ¬ (σ 1 9) < p3) → vt_Mv g 2 D_X2_look [.ref (g.2.1 116), .int p2] σ (fun σ4 => vt_Mi g 5 D_X11_rentOf [.ref (g.2.1 0), .int p1, .int p3] σ4 (fun r6 σ5 => P (some (.int r6)) σ5))) ∧ (¬ (¬ p3 < 0 ∧ ¬ (σ 1 9) < p3) → P (some (.int (-1000000001))) σ)) ∧ (¬ (¬ p2 < 0 ∧ ¬ (σ 1 9) < p2) → P (some (.int (-1000000001))) σ)) ∧ (¬ (¬ p1 < 0 ∧ ¬ (σ 7 7) ≤ p1) → P (some (.int (-1000000001))) σ)) :
  TT g (vt_R 6) 0 0 D_X11_rent none 0 [some (.ref (g.2.1 0)), some (.int p1), some (.int p2), some (.int p3)] [] σ P := by
  refine q_aload_n dX11_rent_0 rfl ?_
  refine q_getR dX11_rent_1 fF_RX11_10 fl_0_0 ?_
  refine q_getR dX11_rent_4 fF_RX11_122 fl_1_3 ?_
  refine q_iload_n dX11_rent_7 rfl ?_
  refine q_cVb (C := ¬ p1 < 0 ∧ ¬ (σ 7 7) ≤ p1) (d' := 0) [.int p1] [] dX11_rent_8 ok_X10_has mk_RX11_132 rc_7 rfl (Nat.le_of_ble_eq_true rfl) (by first | decide | omega) (fun Φ h9 => c_X10_has (σ := σ) Φ h9) (fun c1 => ?_) (fun c1 => ?_)
  · have h := h.1 c1
    refine q_if_eq (tgt := 30) dX11_rent_11 (by decide) (fun c => absurd c (by decide)) (fun _ => ?_)
    refine q_aload_n dX11_rent_14 rfl ?_
    refine q_iload_n dX11_rent_15 rfl ?_
    refine q_cVb (C := ¬ p2 < 0 ∧ ¬ (σ 1 9) < p2) (d' := 1) [.int p2] [] dX11_rent_16 ok_X11_isMonth mk_RX11_164 rc_0 rfl (Nat.le_of_ble_eq_true rfl) (by first | decide | omega) (fun Φ h9 => c_X11_isMonth (σ := σ) Φ h9) (fun c2 => ?_) (fun c2 => ?_)
    · have h := h.1 c2
      refine q_if_eq (tgt := 30) dX11_rent_19 (by decide) (fun c => absurd c (by decide)) (fun _ => ?_)
      refine q_aload_n dX11_rent_22 rfl ?_
      refine q_iload_n dX11_rent_23 rfl ?_
      refine q_cVb (C := ¬ p3 < 0 ∧ ¬ (σ 1 9) < p3) (d' := 1) [.int p3] [] dX11_rent_24 ok_X11_isMonth mk_RX11_164 rc_0 rfl (Nat.le_of_ble_eq_true rfl) (by first | decide | omega) (fun Φ h9 => c_X11_isMonth (σ := σ) Φ h9) (fun c3 => ?_) (fun c3 => ?_)
      · have h := h.1 c3
        refine q_if_ne (tgt := 33) dX11_rent_27 (by decide) (fun _ => ?_) (fun c => absurd c (by decide))
        refine q_aload_n dX11_rent_33 rfl ?_
        refine q_getR dX11_rent_34 fF_RX11_38 fl_0_5 ?_
        refine q_iload_n dX11_rent_37 rfl ?_
        refine q_cV (d' := 2) [.int p2] [] dX11_rent_38 ok_X2_look mk_RX11_140 rc_116 rfl (Nat.le_of_ble_eq_true rfl) (by first | decide | omega) h (fun v σ4 h => ?_)
        obtain ⟨rfl, h⟩ := h
        refine q_aload_n dX11_rent_41 rfl ?_
        refine q_iload_n dX11_rent_42 rfl ?_
        refine q_iload_n dX11_rent_43 rfl ?_
        refine q_cV (d' := 5) [.int p1, .int p3] [] dX11_rent_44 ok_X11_rentOf mk_RX11_245 rc_0 rfl (Nat.le_of_ble_eq_true rfl) (by first | decide | omega) h (fun v σ5 h => ?_)
        obtain ⟨r6, rfl, h⟩ := h
        exact q_iret .int rfl rfl dX11_rent_47 h
      · have h := h.2 c3
        refine q_if_ne (tgt := 33) dX11_rent_27 (by decide) (fun c => absurd rfl c) (fun _ => ?_)
        refine q_ldc dX11_rent_30 ct_RX11_70 ?_
        exact q_iret .int rfl rfl dX11_rent_32 h
    · have h := h.2 c2
      refine q_if_eq (tgt := 30) dX11_rent_19 (by decide) (fun _ => ?_) (fun c => absurd (by decide) c)
      refine q_ldc dX11_rent_30 ct_RX11_70 ?_
      exact q_iret .int rfl rfl dX11_rent_32 h
  · have h := h.2 c1
    refine q_if_eq (tgt := 30) dX11_rent_11 (by decide) (fun _ => ?_) (fun c => absurd (by decide) c)
    refine q_ldc dX11_rent_30 ct_RX11_70 ?_
    exact q_iret .int rfl rfl dX11_rent_32 h

theorem s_X11_rents_0 (g : vt_GT) (σ : vt_Sg) (P : Option Value → vt_Sg → Prop) (p1 : Int32) (p2 : Int32)
  (h : ((¬ p1 < 0 ∧ ¬ (σ 1 9) < p1) → ((¬ p2 < 0 ∧ ¬ (σ 1 9) < p2) → vt_Mv g 2 D_X2_look [.ref (g.2.1 116), .int p1] σ (fun σ3 => TT g (vt_R 6) 0 0 D_X11_rents none 32 [some (.ref (g.2.1 0)), some (.int p1), some (.int p2), some (.int 0), some (.int 0)] [] σ3 P)) ∧ (¬ (¬ p2 < 0 ∧ ¬ (σ 1 9) < p2) → P (some (.int (-1000000001))) σ)) ∧ (¬ (¬ p1 < 0 ∧ ¬ (σ 1 9) < p1) → P (some (.int (-1000000001))) σ)) :
  TT g (vt_R 6) 0 0 D_X11_rents none 0 [some (.ref (g.2.1 0)), some (.int p1), some (.int p2), none, none] [] σ P := by
  refine q_aload_n dX11_rents_0 rfl ?_
  refine q_iload_n dX11_rents_1 rfl ?_
  refine q_cVb (C := ¬ p1 < 0 ∧ ¬ (σ 1 9) < p1) (d' := 1) [.int p1] [] dX11_rents_2 ok_X11_isMonth mk_RX11_164 rc_0 rfl (Nat.le_of_ble_eq_true rfl) (by first | decide | omega) (fun Φ h9 => c_X11_isMonth (σ := σ) Φ h9) (fun c1 => ?_) (fun c1 => ?_)
  · have h := h.1 c1
    refine q_if_eq (tgt := 16) dX11_rents_5 (by decide) (fun c => absurd c (by decide)) (fun _ => ?_)
    refine q_aload_n dX11_rents_8 rfl ?_
    refine q_iload_n dX11_rents_9 rfl ?_
    refine q_cVb (C := ¬ p2 < 0 ∧ ¬ (σ 1 9) < p2) (d' := 1) [.int p2] [] dX11_rents_10 ok_X11_isMonth mk_RX11_164 rc_0 rfl (Nat.le_of_ble_eq_true rfl) (by first | decide | omega) (fun Φ h9 => c_X11_isMonth (σ := σ) Φ h9) (fun c2 => ?_) (fun c2 => ?_)
    · have h := h.1 c2
      refine q_if_ne (tgt := 19) dX11_rents_13 (by decide) (fun _ => ?_) (fun c => absurd c (by decide))
      refine q_aload_n dX11_rents_19 rfl ?_
      refine q_getR dX11_rents_20 fF_RX11_38 fl_0_5 ?_
      refine q_iload_n dX11_rents_23 rfl ?_
      refine q_cV (d' := 2) [.int p1] [] dX11_rents_24 ok_X2_look mk_RX11_140 rc_116 rfl (Nat.le_of_ble_eq_true rfl) (by first | decide | omega) h (fun v σ3 h => ?_)
      obtain ⟨rfl, h⟩ := h
      refine q_iconst (v := 0) dX11_rents_27 (by decide) ?_
      refine q_istore_n (L' := [some (.ref (g.2.1 0)), some (.int p1), some (.int p2), some (.int 0), none]) dX11_rents_28 (by decide) rfl rfl ?_
      refine q_iconst (v := 0) dX11_rents_29 (by decide) ?_
      refine q_istore (L' := [some (.ref (g.2.1 0)), some (.int p1), some (.int p2), some (.int 0), some (.int 0)]) dX11_rents_30 (by decide) rfl rfl ?_
      exact h
    · have h := h.2 c2
      refine q_if_ne (tgt := 19) dX11_rents_13 (by decide) (fun c => absurd rfl c) (fun _ => ?_)
      refine q_ldc dX11_rents_16 ct_RX11_70 ?_
      exact q_iret .int rfl rfl dX11_rents_18 h
  · have h := h.2 c1
    refine q_if_eq (tgt := 16) dX11_rents_5 (by decide) (fun _ => ?_) (fun c => absurd (by decide) c)
    refine q_ldc dX11_rents_16 ct_RX11_70 ?_
    exact q_iret .int rfl rfl dX11_rents_18 h

theorem s_X11_rents_32 (g : vt_GT) (σ : vt_Sg) (P : Option Value → vt_Sg → Prop) (x1 : Int32) (x2 : Int32) (x3 : Int32) (x4 : Int32)
  (h : ((σ 7 7) ≤ x4 → P (some (.int x3)) σ) ∧ (¬ (σ 7 7) ≤ x4 → vt_Mi g 5 D_X11_rentOf [.ref (g.2.1 0), .int x4, .int x2] σ (fun r3 σ2 => TT g (vt_R 6) 0 0 D_X11_rents none 32 [some (.ref (g.2.1 0)), some (.int x1), some (.int x2), some (.int (x3 + r3)), some (.int (x4 + 1))] [] σ2 P))) :
  TT g (vt_R 6) 0 0 D_X11_rents none 32 [some (.ref (g.2.1 0)), some (.int x1), some (.int x2), some (.int x3), some (.int x4)] [] σ P := by
  refine q_iload dX11_rents_32 rfl ?_
  refine q_aload_n dX11_rents_34 rfl ?_
  refine q_getR dX11_rents_35 fF_RX11_10 fl_0_0 ?_
  refine q_getR dX11_rents_38 fF_RX11_122 fl_1_3 ?_
  refine q_getX (x := (σ 7 7)) dX11_rents_41 fF_RX11_126 fl_7_7 rfl ?_
  refine q_icmp_ge (tgt := 63) dX11_rents_44 (by decide) (fun c1 => ?_) (fun c1 => ?_)
  · have h := h.1 c1
    refine q_iload_n dX11_rents_63 rfl ?_
    exact q_iret .int rfl rfl dX11_rents_64 h
  · have h := h.2 c1
    refine q_iload_n dX11_rents_47 rfl ?_
    refine q_aload_n dX11_rents_48 rfl ?_
    refine q_iload dX11_rents_49 rfl ?_
    refine q_iload_n dX11_rents_51 rfl ?_
    refine q_cV (d' := 5) [.int x4, .int x2] [.int x3] dX11_rents_52 ok_X11_rentOf mk_RX11_245 rc_0 rfl (Nat.le_of_ble_eq_true rfl) (by first | decide | omega) h (fun v σ2 h => ?_)
    obtain ⟨r3, rfl, h⟩ := h
    refine q_iadd dX11_rents_55 ?_
    refine q_istore_n (L' := [some (.ref (g.2.1 0)), some (.int x1), some (.int x2), some (.int (x3 + r3)), some (.int x4)]) dX11_rents_56 (by decide) rfl rfl ?_
    refine q_iinc (L' := [some (.ref (g.2.1 0)), some (.int x1), some (.int x2), some (.int (x3 + r3)), some (.int (x4 + 1))]) dX11_rents_57 rfl (by decide) rfl rfl ?_
    refine q_goto (tgt := 32) dX11_rents_60 (by decide) ?_
    exact h

theorem s_X11_charge_0 (g : vt_GT) (σ : vt_Sg) (P : Option Value → vt_Sg → Prop) (p1 : Int32) (p2 : Int32) (p3 : Int32)
  (h : ((¬ p1 < 0 ∧ ¬ (σ 7 7) ≤ p1) → ((¬ p2 < 0 ∧ ¬ (σ 1 9) < p2) → ((¬ p3 < (0 : Int32) ∧ ¬ (999999 : Int32) < p3) → vt_Mv g 2 D_X2_look [.ref (g.2.1 116), .int p2] σ (fun σ4 => TT g (vt_R 3) 0 0 D_X11_charge none 49 [some (.ref (g.2.1 0)), some (.int p1), some (.int p2), some (.int p3), some (.int 0), some (.int 0), none, none, none, none] [] σ4 P)) ∧ (¬ (¬ p3 < (0 : Int32) ∧ ¬ (999999 : Int32) < p3) → P (some (.int (-1000000001))) σ)) ∧ (¬ (¬ p2 < 0 ∧ ¬ (σ 1 9) < p2) → P (some (.int (-1000000001))) σ)) ∧ (¬ (¬ p1 < 0 ∧ ¬ (σ 7 7) ≤ p1) → P (some (.int (-1000000001))) σ)) :
  TT g (vt_R 3) 0 0 D_X11_charge none 0 [some (.ref (g.2.1 0)), some (.int p1), some (.int p2), some (.int p3), none, none, none, none, none, none] [] σ P := by
  refine q_aload_n dX11_charge_0 rfl ?_
  refine q_getR dX11_charge_1 fF_RX11_10 fl_0_0 ?_
  refine q_getR dX11_charge_4 fF_RX11_122 fl_1_3 ?_
  refine q_iload_n dX11_charge_7 rfl ?_
  refine q_cVb (C := ¬ p1 < 0 ∧ ¬ (σ 7 7) ≤ p1) (d' := 0) [.int p1] [] dX11_charge_8 ok_X10_has mk_RX11_132 rc_7 rfl (Nat.le_of_ble_eq_true rfl) (by first | decide | omega) (fun Φ h9 => c_X10_has (σ := σ) Φ h9) (fun c1 => ?_) (fun c1 => ?_)
  · have h := h.1 c1
    refine q_if_eq (tgt := 32) dX11_charge_11 (by decide) (fun c => absurd c (by decide)) (fun _ => ?_)
    refine q_aload_n dX11_charge_14 rfl ?_
    refine q_iload_n dX11_charge_15 rfl ?_
    refine q_cVb (C := ¬ p2 < 0 ∧ ¬ (σ 1 9) < p2) (d' := 1) [.int p2] [] dX11_charge_16 ok_X11_isMonth mk_RX11_164 rc_0 rfl (Nat.le_of_ble_eq_true rfl) (by first | decide | omega) (fun Φ h9 => c_X11_isMonth (σ := σ) Φ h9) (fun c2 => ?_) (fun c2 => ?_)
    · have h := h.1 c2
      refine q_if_eq (tgt := 32) dX11_charge_19 (by decide) (fun c => absurd c (by decide)) (fun _ => ?_)
      refine q_iload_n dX11_charge_22 rfl ?_
      refine q_iconst (v := 0) dX11_charge_23 (by decide) ?_
      refine q_ldc dX11_charge_24 ct_RX11_248 ?_
      refine q_cSb (C := ¬ p3 < (0 : Int32) ∧ ¬ (999999 : Int32) < p3) (d' := 0) [.int p3, .int 0, .int 999999] [] dX11_charge_26 ok_X11_within mk_RX11_117 rfl (Nat.le_of_ble_eq_true rfl) (by first | decide | omega) (fun Φ h9 => c_X11_within (σ := σ) Φ h9) (fun c3 => ?_) (fun c3 => ?_)
      · have h := h.1 c3
        refine q_if_ne (tgt := 35) dX11_charge_29 (by decide) (fun _ => ?_) (fun c => absurd c (by decide))
        refine q_aload_n dX11_charge_35 rfl ?_
        refine q_getR dX11_charge_36 fF_RX11_38 fl_0_5 ?_
        refine q_iload_n dX11_charge_39 rfl ?_
        refine q_cV (d' := 2) [.int p2] [] dX11_charge_40 ok_X2_look mk_RX11_140 rc_116 rfl (Nat.le_of_ble_eq_true rfl) (by first | decide | omega) h (fun v σ4 h => ?_)
        obtain ⟨rfl, h⟩ := h
        refine q_iconst (v := 0) dX11_charge_43 (by decide) ?_
        refine q_istore (L' := [some (.ref (g.2.1 0)), some (.int p1), some (.int p2), some (.int p3), some (.int 0), none, none, none, none, none]) dX11_charge_44 (by decide) rfl rfl ?_
        refine q_iconst (v := 0) dX11_charge_46 (by decide) ?_
        refine q_istore (L' := [some (.ref (g.2.1 0)), some (.int p1), some (.int p2), some (.int p3), some (.int 0), some (.int 0), none, none, none, none]) dX11_charge_47 (by decide) rfl rfl ?_
        exact h
      · have h := h.2 c3
        refine q_if_ne (tgt := 35) dX11_charge_29 (by decide) (fun c => absurd rfl c) (fun _ => ?_)
        refine q_ldc dX11_charge_32 ct_RX11_70 ?_
        exact q_iret .int rfl rfl dX11_charge_34 h
    · have h := h.2 c2
      refine q_if_eq (tgt := 32) dX11_charge_19 (by decide) (fun _ => ?_) (fun c => absurd (by decide) c)
      refine q_ldc dX11_charge_32 ct_RX11_70 ?_
      exact q_iret .int rfl rfl dX11_charge_34 h
  · have h := h.2 c1
    refine q_if_eq (tgt := 32) dX11_charge_11 (by decide) (fun _ => ?_) (fun c => absurd (by decide) c)
    refine q_ldc dX11_charge_32 ct_RX11_70 ?_
    exact q_iret .int rfl rfl dX11_charge_34 h

theorem s_X11_charge_49 (g : vt_GT) (σ : vt_Sg) (P : Option Value → vt_Sg → Prop) (x1 : Int32) (x2 : Int32) (x3 : Int32) (x4 : Int32) (x5 : Int32)
  (h : (12 ≤ x5 → vp_in x1 12 ∧ (((σ 117 x1.toNatClampNeg) = (-1000000005) → P (some (.int 0)) σ) ∧ (¬ (σ 117 x1.toNatClampNeg) = (-1000000005) → (x4 = 0 → P (some (.int 0)) σ) ∧ (¬ x4 = 0 → vt_Mi g 0 D_X2_chargedFeet [.ref (g.2.1 116), .int (σ 117 x1.toNatClampNeg)] σ (fun r6 σ5 => (¬ r6 = 0 → TT g (vt_R 3) 0 0 D_X11_charge none 122 [some (.ref (g.2.1 0)), some (.int x1), some (.int x2), some (.int x3), some (.int x4), some (.int (σ 117 x1.toNatClampNeg)), some (.int x3), some (.int 0), some (.int 0), none] [] σ5 P) ∧ (r6 = 0 → P (some (.int 0)) σ5)))))) ∧ (¬ 12 ≤ x5 → vt_Mi g 0 D_X2_chargedFeet [.ref (g.2.1 116), .int x5] σ (fun r9 σ8 => TT g (vt_R 3) 0 0 D_X11_charge none 49 [some (.ref (g.2.1 0)), some (.int x1), some (.int x2), some (.int x3), some (.int (x4 + r9)), some (.int (x5 + 1)), none, none, none, none] [] σ8 P))) :
  TT g (vt_R 3) 0 0 D_X11_charge none 49 [some (.ref (g.2.1 0)), some (.int x1), some (.int x2), some (.int x3), some (.int x4), some (.int x5), none, none, none, none] [] σ P := by
  refine q_iload dX11_charge_49 rfl ?_
  refine q_bipush (v := 12) dX11_charge_51 (by decide) ?_
  refine q_icmp_ge (tgt := 76) dX11_charge_53 (by decide) (fun c1 => ?_) (fun c1 => ?_)
  · have h := h.1 c1
    refine q_aload_n dX11_charge_76 rfl ?_
    refine q_getR dX11_charge_77 fF_RX11_38 fl_0_5 ?_
    refine q_getR dX11_charge_80 fF_RX11_144 fl_116_3 ?_
    refine q_iload_n dX11_charge_83 rfl ?_
    obtain ⟨hi2, h⟩ := h
    refine q_ialdX (v := (σ 117 x1.toNatClampNeg)) dX11_charge_84 ar_117 hi2 rfl ?_
    refine q_istore (L' := [some (.ref (g.2.1 0)), some (.int x1), some (.int x2), some (.int x3), some (.int x4), some (.int (σ 117 x1.toNatClampNeg)), none, none, none, none]) dX11_charge_85 (by decide) rfl rfl ?_
    refine q_iload dX11_charge_87 rfl ?_
    refine q_ldc dX11_charge_89 ct_RX11_136 ?_
    refine q_icmp_eq (tgt := 111) dX11_charge_91 (by decide) (fun c3 => ?_) (fun c3 => ?_)
    · have h := h.1 c3
      refine q_iconst (v := 0) dX11_charge_111 (by decide) ?_
      exact q_iret .int rfl rfl dX11_charge_112 h
    · have h := h.2 c3
      refine q_iload dX11_charge_94 rfl ?_
      refine q_if_eq (tgt := 111) dX11_charge_96 (by decide) (fun c4 => ?_) (fun c4 => ?_)
      · have h := h.1 c4
        refine q_iconst (v := 0) dX11_charge_111 (by decide) ?_
        exact q_iret .int rfl rfl dX11_charge_112 h
      · have h := h.2 c4
        refine q_aload_n dX11_charge_99 rfl ?_
        refine q_getR dX11_charge_100 fF_RX11_38 fl_0_5 ?_
        refine q_iload dX11_charge_103 rfl ?_
        refine q_cV (d' := 0) [.int (σ 117 x1.toNatClampNeg)] [] dX11_charge_105 ok_X2_chargedFeet mk_RX11_249 rc_116 rfl (Nat.le_of_ble_eq_true rfl) (by first | decide | omega) h (fun v σ5 h => ?_)
        obtain ⟨r6, rfl, h⟩ := h
        refine q_if_ne (tgt := 113) dX11_charge_108 (by decide) (fun c7 => ?_) (fun c7 => ?_)
        · have h := h.1 c7
          refine q_iload_n dX11_charge_113 rfl ?_
          refine q_istore (L' := [some (.ref (g.2.1 0)), some (.int x1), some (.int x2), some (.int x3), some (.int x4), some (.int (σ 117 x1.toNatClampNeg)), some (.int x3), none, none, none]) dX11_charge_114 (by decide) rfl rfl ?_
          refine q_iconst (v := 0) dX11_charge_116 (by decide) ?_
          refine q_istore (L' := [some (.ref (g.2.1 0)), some (.int x1), some (.int x2), some (.int x3), some (.int x4), some (.int (σ 117 x1.toNatClampNeg)), some (.int x3), some (.int 0), none, none]) dX11_charge_117 (by decide) rfl rfl ?_
          refine q_iconst (v := 0) dX11_charge_119 (by decide) ?_
          refine q_istore (L' := [some (.ref (g.2.1 0)), some (.int x1), some (.int x2), some (.int x3), some (.int x4), some (.int (σ 117 x1.toNatClampNeg)), some (.int x3), some (.int 0), some (.int 0), none]) dX11_charge_120 (by decide) rfl rfl ?_
          exact h
        · have h := h.2 c7
          refine q_iconst (v := 0) dX11_charge_111 (by decide) ?_
          exact q_iret .int rfl rfl dX11_charge_112 h
  · have h := h.2 c1
    refine q_iload dX11_charge_56 rfl ?_
    refine q_aload_n dX11_charge_58 rfl ?_
    refine q_getR dX11_charge_59 fF_RX11_38 fl_0_5 ?_
    refine q_iload dX11_charge_62 rfl ?_
    refine q_cV (d' := 0) [.int x5] [.int x4] dX11_charge_64 ok_X2_chargedFeet mk_RX11_249 rc_116 rfl (Nat.le_of_ble_eq_true rfl) (by first | decide | omega) h (fun v σ8 h => ?_)
    obtain ⟨r9, rfl, h⟩ := h
    refine q_iadd dX11_charge_67 ?_
    refine q_istore (L' := [some (.ref (g.2.1 0)), some (.int x1), some (.int x2), some (.int x3), some (.int (x4 + r9)), some (.int x5), none, none, none, none]) dX11_charge_68 (by decide) rfl rfl ?_
    refine q_iinc (L' := [some (.ref (g.2.1 0)), some (.int x1), some (.int x2), some (.int x3), some (.int (x4 + r9)), some (.int (x5 + 1)), none, none, none, none]) dX11_charge_70 rfl (by decide) rfl rfl ?_
    refine q_goto (tgt := 49) dX11_charge_73 (by decide) ?_
    exact h

theorem s_X11_charge_122 (g : vt_GT) (σ : vt_Sg) (P : Option Value → vt_Sg → Prop) (x1 : Int32) (x2 : Int32) (x3 : Int32) (x4 : Int32) (x5 : Int32) (x6 : Int32) (x7 : Int32) (x8 : Int32)
  (h : (12 ≤ x8 → vt_Mi g 0 D_X2_chargedFeet [.ref (g.2.1 116), .int x5] σ (fun r3 σ2 => ¬ x4 = 0 ∧ ((x6 ≤ x7 → P (some (.int (((x3 * r3) / x4) + 0))) σ2) ∧ (¬ x6 ≤ x7 → P (some (.int (((x3 * r3) / x4) + 1))) σ2)))) ∧ (¬ 12 ≤ x8 → vt_Mi g 0 D_X2_chargedFeet [.ref (g.2.1 116), .int x8] σ (fun r7 σ6 => ¬ x4 = 0 ∧ ((r7 ≤ 0 → TT g (vt_R 3) 0 0 D_X11_charge none 122 [some (.ref (g.2.1 0)), some (.int x1), some (.int x2), some (.int x3), some (.int x4), some (.int x5), some (.int (x6 - ((x3 * r7) / x4))), some (.int x7), some (.int (x8 + 1)), none] [] σ6 P) ∧ (¬ r7 ≤ 0 → (x5 ≤ x8 → TT g (vt_R 3) 0 0 D_X11_charge none 122 [some (.ref (g.2.1 0)), some (.int x1), some (.int x2), some (.int x3), some (.int x4), some (.int x5), some (.int (x6 - ((x3 * r7) / x4))), some (.int x7), some (.int (x8 + 1)), none] [] σ6 P) ∧ (¬ x5 ≤ x8 → TT g (vt_R 3) 0 0 D_X11_charge none 122 [some (.ref (g.2.1 0)), some (.int x1), some (.int x2), some (.int x3), some (.int x4), some (.int x5), some (.int (x6 - ((x3 * r7) / x4))), some (.int (x7 + 1)), some (.int (x8 + 1)), none] [] σ6 P)))))) :
  TT g (vt_R 3) 0 0 D_X11_charge none 122 [some (.ref (g.2.1 0)), some (.int x1), some (.int x2), some (.int x3), some (.int x4), some (.int x5), some (.int x6), some (.int x7), some (.int x8), none] [] σ P := by
  refine q_iload dX11_charge_122 rfl ?_
  refine q_bipush (v := 12) dX11_charge_124 (by decide) ?_
  refine q_icmp_ge (tgt := 173) dX11_charge_126 (by decide) (fun c1 => ?_) (fun c1 => ?_)
  · have h := h.1 c1
    refine q_iload_n dX11_charge_173 rfl ?_
    refine q_aload_n dX11_charge_174 rfl ?_
    refine q_getR dX11_charge_175 fF_RX11_38 fl_0_5 ?_
    refine q_iload dX11_charge_178 rfl ?_
    refine q_cV (d' := 0) [.int x5] [.int x3] dX11_charge_180 ok_X2_chargedFeet mk_RX11_249 rc_116 rfl (Nat.le_of_ble_eq_true rfl) (by first | decide | omega) h (fun v σ2 h => ?_)
    obtain ⟨r3, rfl, h⟩ := h
    refine q_imul dX11_charge_183 ?_
    refine q_iload dX11_charge_184 rfl ?_
    obtain ⟨hz4, h⟩ := h
    refine q_idiv dX11_charge_186 hz4 ?_
    refine q_iload dX11_charge_187 rfl ?_
    refine q_iload dX11_charge_189 rfl ?_
    refine q_icmp_ge (tgt := 198) dX11_charge_191 (by decide) (fun c5 => ?_) (fun c5 => ?_)
    · have h := h.1 c5
      refine q_iconst (v := 0) dX11_charge_198 (by decide) ?_
      refine q_iadd dX11_charge_199 ?_
      exact q_iret .int rfl rfl dX11_charge_200 h
    · have h := h.2 c5
      refine q_iconst (v := 1) dX11_charge_194 (by decide) ?_
      refine q_goto (tgt := 199) dX11_charge_195 (by decide) ?_
      refine q_iadd dX11_charge_199 ?_
      exact q_iret .int rfl rfl dX11_charge_200 h
  · have h := h.2 c1
    refine q_aload_n dX11_charge_129 rfl ?_
    refine q_getR dX11_charge_130 fF_RX11_38 fl_0_5 ?_
    refine q_iload dX11_charge_133 rfl ?_
    refine q_cV (d' := 0) [.int x8] [] dX11_charge_135 ok_X2_chargedFeet mk_RX11_249 rc_116 rfl (Nat.le_of_ble_eq_true rfl) (by first | decide | omega) h (fun v σ6 h => ?_)
    obtain ⟨r7, rfl, h⟩ := h
    refine q_istore (L' := [some (.ref (g.2.1 0)), some (.int x1), some (.int x2), some (.int x3), some (.int x4), some (.int x5), some (.int x6), some (.int x7), some (.int x8), some (.int r7)]) dX11_charge_138 (by decide) rfl rfl ?_
    refine q_iload dX11_charge_140 rfl ?_
    refine q_iload_n dX11_charge_142 rfl ?_
    refine q_iload dX11_charge_143 rfl ?_
    refine q_imul dX11_charge_145 ?_
    refine q_iload dX11_charge_146 rfl ?_
    obtain ⟨hz8, h⟩ := h
    refine q_idiv dX11_charge_148 hz8 ?_
    refine q_isub dX11_charge_149 ?_
    refine q_istore (L' := [some (.ref (g.2.1 0)), some (.int x1), some (.int x2), some (.int x3), some (.int x4), some (.int x5), some (.int (x6 - ((x3 * r7) / x4))), some (.int x7), some (.int x8), some (.int r7)]) dX11_charge_150 (by decide) rfl rfl ?_
    refine q_iload dX11_charge_152 rfl ?_
    refine q_if_le (tgt := 167) dX11_charge_154 (by decide) (fun c9 => ?_) (fun c9 => ?_)
    · have h := h.1 c9
      refine q_iinc (L' := [some (.ref (g.2.1 0)), some (.int x1), some (.int x2), some (.int x3), some (.int x4), some (.int x5), some (.int (x6 - ((x3 * r7) / x4))), some (.int x7), some (.int (x8 + 1)), some (.int r7)]) dX11_charge_167 rfl (by decide) rfl rfl ?_
      refine q_goto (tgt := 122) dX11_charge_170 (by decide) ?_
      exact q_wk (by simp [vt_le]) h
    · have h := h.2 c9
      refine q_iload dX11_charge_157 rfl ?_
      refine q_iload dX11_charge_159 rfl ?_
      refine q_icmp_ge (tgt := 167) dX11_charge_161 (by decide) (fun c10 => ?_) (fun c10 => ?_)
      · have h := h.1 c10
        refine q_iinc (L' := [some (.ref (g.2.1 0)), some (.int x1), some (.int x2), some (.int x3), some (.int x4), some (.int x5), some (.int (x6 - ((x3 * r7) / x4))), some (.int x7), some (.int (x8 + 1)), some (.int r7)]) dX11_charge_167 rfl (by decide) rfl rfl ?_
        refine q_goto (tgt := 122) dX11_charge_170 (by decide) ?_
        exact q_wk (by simp [vt_le]) h
      · have h := h.2 c10
        refine q_iinc (L' := [some (.ref (g.2.1 0)), some (.int x1), some (.int x2), some (.int x3), some (.int x4), some (.int x5), some (.int (x6 - ((x3 * r7) / x4))), some (.int (x7 + 1)), some (.int x8), some (.int r7)]) dX11_charge_164 rfl (by decide) rfl rfl ?_
        refine q_iinc (L' := [some (.ref (g.2.1 0)), some (.int x1), some (.int x2), some (.int x3), some (.int x4), some (.int x5), some (.int (x6 - ((x3 * r7) / x4))), some (.int (x7 + 1)), some (.int (x8 + 1)), some (.int r7)]) dX11_charge_167 rfl (by decide) rfl rfl ?_
        refine q_goto (tgt := 122) dX11_charge_170 (by decide) ?_
        exact q_wk (by simp [vt_le]) h

theorem s_X11_fall_0 (g : vt_GT) (σ : vt_Sg) (P : Option Value → vt_Sg → Prop) 
  (h : vt_Mv g 2 D_X2_look [.ref (g.2.1 116), .int (σ 1 9)] σ (fun σ1 => vt_Mi g 5 D_X11_letFall [.ref (g.2.1 0)] σ1 (fun r3 σ2 => (((σ2 15 3) + r3) ≤ 200 → TT g (vt_R 6) 0 0 D_X11_fall none 42 [some (.ref (g.2.1 0)), some (.int r3), some (.int 0)] [] σ2 P) ∧ (¬ ((σ2 15 3) + r3) ≤ 200 → P (some (.int (-1000000003))) σ2)))) :
  TT g (vt_R 6) 0 0 D_X11_fall none 0 [some (.ref (g.2.1 0)), none, none] [] σ P := by
  refine q_aload_n dX11_fall_0 rfl ?_
  refine q_getR dX11_fall_1 fF_RX11_38 fl_0_5 ?_
  refine q_aload_n dX11_fall_4 rfl ?_
  refine q_getR dX11_fall_5 fF_RX11_10 fl_0_0 ?_
  refine q_getX (x := (σ 1 9)) dX11_fall_8 fF_RX11_137 fl_1_9 rfl ?_
  refine q_cV (d' := 2) [.int (σ 1 9)] [] dX11_fall_11 ok_X2_look mk_RX11_140 rc_116 rfl (Nat.le_of_ble_eq_true rfl) (by first | decide | omega) h (fun v σ1 h => ?_)
  obtain ⟨rfl, h⟩ := h
  refine q_aload_n dX11_fall_14 rfl ?_
  refine q_cV (d' := 5) [] [] dX11_fall_15 ok_X11_letFall mk_RX11_252 rc_0 rfl (Nat.le_of_ble_eq_true rfl) (by first | decide | omega) h (fun v σ2 h => ?_)
  obtain ⟨r3, rfl, h⟩ := h
  refine q_istore_n (L' := [some (.ref (g.2.1 0)), some (.int r3), none]) dX11_fall_18 (by decide) rfl rfl ?_
  refine q_aload_n dX11_fall_19 rfl ?_
  refine q_getR dX11_fall_20 fF_RX11_10 fl_0_0 ?_
  refine q_getR dX11_fall_23 fF_RX11_151 fl_1_4 ?_
  refine q_getX (x := (σ2 15 3)) dX11_fall_26 fF_RX11_155 fl_15_3 rfl ?_
  refine q_iload_n dX11_fall_29 rfl ?_
  refine q_iadd dX11_fall_30 ?_
  refine q_sipush (v := 200) dX11_fall_31 (by decide) ?_
  refine q_icmp_le (tgt := 40) dX11_fall_34 (by decide) (fun c4 => ?_) (fun c4 => ?_)
  · have h := h.1 c4
    refine q_iconst (v := 0) dX11_fall_40 (by decide) ?_
    refine q_istore_n (L' := [some (.ref (g.2.1 0)), some (.int r3), some (.int 0)]) dX11_fall_41 (by decide) rfl rfl ?_
    exact h
  · have h := h.2 c4
    refine q_ldc dX11_fall_37 ct_RX11_107 ?_
    exact q_iret .int rfl rfl dX11_fall_39 h

theorem s_X11_fall_42 (g : vt_GT) (σ : vt_Sg) (P : Option Value → vt_Sg → Prop) (x1 : Int32) (x2 : Int32)
  (h : (x1 ≤ x2 → P (some (.int x1)) (su σ 1 (upd (σ 1) 8 x1))) ∧ (¬ x1 ≤ x2 → vp_in x2 12 ∧ (vt_Mv g 0 D_X7_add [.ref (g.2.1 15), .int (σ 166 x2.toNatClampNeg), .int (σ 1 9), .int (-1000000005)] σ (fun σ3 => TT g (vt_R 6) 0 0 D_X11_fall none 42 [some (.ref (g.2.1 0)), some (.int x1), some (.int (x2 + 1))] [] (su σ3 53 (upd (σ3 53) x2.toNatClampNeg (σ3 166 x2.toNatClampNeg))) P)))) :
  TT g (vt_R 6) 0 0 D_X11_fall none 42 [some (.ref (g.2.1 0)), some (.int x1), some (.int x2)] [] σ P := by
  refine q_iload_n dX11_fall_42 rfl ?_
  refine q_iload_n dX11_fall_43 rfl ?_
  refine q_icmp_ge (tgt := 93) dX11_fall_44 (by decide) (fun c1 => ?_) (fun c1 => ?_)
  · have h := h.1 c1
    refine q_aload_n dX11_fall_93 rfl ?_
    refine q_getR dX11_fall_94 fF_RX11_10 fl_0_0 ?_
    refine q_iload_n dX11_fall_97 rfl ?_
    refine q_putX (F := upd (σ 1) 8 x1) dX11_fall_98 fF_RX11_258 fP_0_8 fl_1_8 rfl ?_
    refine q_iload_n dX11_fall_101 rfl ?_
    exact q_iret .int rfl rfl dX11_fall_102 h
  · have h := h.2 c1
    refine q_aload_n dX11_fall_47 rfl ?_
    refine q_getR dX11_fall_48 fF_RX11_10 fl_0_0 ?_
    refine q_getR dX11_fall_51 fF_RX11_151 fl_1_4 ?_
    refine q_aload_n dX11_fall_54 rfl ?_
    refine q_getR dX11_fall_55 fF_RX11_56 fl_0_8 ?_
    refine q_iload_n dX11_fall_58 rfl ?_
    obtain ⟨hi2, h⟩ := h
    refine q_ialdX (v := (σ 166 x2.toNatClampNeg)) dX11_fall_59 ar_166 hi2 rfl ?_
    refine q_aload_n dX11_fall_60 rfl ?_
    refine q_getR dX11_fall_61 fF_RX11_10 fl_0_0 ?_
    refine q_getX (x := (σ 1 9)) dX11_fall_64 fF_RX11_137 fl_1_9 rfl ?_
    refine q_ldc dX11_fall_67 ct_RX11_136 ?_
    refine q_cV (d' := 0) [.int (σ 166 x2.toNatClampNeg), .int (σ 1 9), .int (-1000000005)] [] dX11_fall_69 ok_X7_add mk_RX11_158 rc_15 rfl (Nat.le_of_ble_eq_true rfl) (by first | decide | omega) h (fun v σ3 h => ?_)
    obtain ⟨rfl, h⟩ := h
    refine q_aload_n dX11_fall_72 rfl ?_
    refine q_getR dX11_fall_73 fF_RX11_10 fl_0_0 ?_
    refine q_getR dX11_fall_76 fF_RX11_255 fl_1_7 ?_
    refine q_iload_n dX11_fall_79 rfl ?_
    refine q_aload_n dX11_fall_80 rfl ?_
    refine q_getR dX11_fall_81 fF_RX11_56 fl_0_8 ?_
    refine q_iload_n dX11_fall_84 rfl ?_
    refine q_ialdX (v := (σ3 166 x2.toNatClampNeg)) dX11_fall_85 ar_166 hi2 rfl ?_
    refine q_iastX (F := upd (σ3 53) x2.toNatClampNeg (σ3 166 x2.toNatClampNeg)) dX11_fall_86 ar_53 hi2 rfl ?_
    refine q_iinc (L' := [some (.ref (g.2.1 0)), some (.int x1), some (.int (x2 + 1))]) dX11_fall_87 rfl (by decide) rfl rfl ?_
    refine q_goto (tgt := 42) dX11_fall_90 (by decide) ?_
    exact h

theorem s_X11_fallen_0 (g : vt_GT) (σ : vt_Sg) (P : Option Value → vt_Sg → Prop) (p1 : Int32)
  (h : (0 ≤ p1 → ((σ 1 8) ≤ p1 → P (some (.int (-1000000005))) σ) ∧ (¬ (σ 1 8) ≤ p1 → vp_in p1 12 ∧ (P (some (.int (σ 53 p1.toNatClampNeg))) σ))) ∧ (¬ 0 ≤ p1 → P (some (.int (-1000000001))) σ)) :
  TT g (vt_R 0) 0 0 D_X11_fallen none 0 [some (.ref (g.2.1 0)), some (.int p1)] [] σ P := by
  refine q_iload_n dX11_fallen_0 rfl ?_
  refine q_if_ge (tgt := 7) dX11_fallen_1 (by decide) (fun c1 => ?_) (fun c1 => ?_)
  · have h := h.1 c1
    refine q_iload_n dX11_fallen_7 rfl ?_
    refine q_aload_n dX11_fallen_8 rfl ?_
    refine q_getR dX11_fallen_9 fF_RX11_10 fl_0_0 ?_
    refine q_getX (x := (σ 1 8)) dX11_fallen_12 fF_RX11_258 fl_1_8 rfl ?_
    refine q_icmp_ge (tgt := 30) dX11_fallen_15 (by decide) (fun c2 => ?_) (fun c2 => ?_)
    · have h := h.1 c2
      refine q_ldc dX11_fallen_30 ct_RX11_136 ?_
      exact q_iret .int rfl rfl dX11_fallen_32 h
    · have h := h.2 c2
      refine q_aload_n dX11_fallen_18 rfl ?_
      refine q_getR dX11_fallen_19 fF_RX11_10 fl_0_0 ?_
      refine q_getR dX11_fallen_22 fF_RX11_255 fl_1_7 ?_
      refine q_iload_n dX11_fallen_25 rfl ?_
      obtain ⟨hi3, h⟩ := h
      refine q_ialdX (v := (σ 53 p1.toNatClampNeg)) dX11_fallen_26 ar_53 hi3 rfl ?_
      refine q_goto (tgt := 32) dX11_fallen_27 (by decide) ?_
      exact q_iret .int rfl rfl dX11_fallen_32 h
  · have h := h.2 c1
    refine q_ldc dX11_fallen_4 ct_RX11_70 ?_
    exact q_iret .int rfl rfl dX11_fallen_6 h

theorem s_X11_without_0 (g : vt_GT) (σ : vt_Sg) (P : Option Value → vt_Sg → Prop) (p1 : Int32)
  (h : ((¬ p1 < 0 ∧ ¬ (σ 7 7) ≤ p1) → vt_Mv g 2 D_X2_look [.ref (g.2.1 116), .int (σ 1 9)] σ (fun σ2 => vp_in p1 12 ∧ ((¬ (σ2 117 p1.toNatClampNeg) = (-1000000005) → vt_Mv g 2 D_X2_sendOut [.ref (g.2.1 116), .int p1] σ2 (fun σ5 => vt_Mi g 5 D_X11_letFall [.ref (g.2.1 0)] σ5 (fun r7 σ6 => P (some (.int r7)) σ6))) ∧ ((σ2 117 p1.toNatClampNeg) = (-1000000005) → P (some (.int (-1000000002))) σ2)))) ∧ (¬ (¬ p1 < 0 ∧ ¬ (σ 7 7) ≤ p1) → P (some (.int (-1000000001))) σ)) :
  TT g (vt_R 6) 0 0 D_X11_without none 0 [some (.ref (g.2.1 0)), some (.int p1)] [] σ P := by
  refine q_aload_n dX11_without_0 rfl ?_
  refine q_getR dX11_without_1 fF_RX11_10 fl_0_0 ?_
  refine q_getR dX11_without_4 fF_RX11_122 fl_1_3 ?_
  refine q_iload_n dX11_without_7 rfl ?_
  refine q_cVb (C := ¬ p1 < 0 ∧ ¬ (σ 7 7) ≤ p1) (d' := 0) [.int p1] [] dX11_without_8 ok_X10_has mk_RX11_132 rc_7 rfl (Nat.le_of_ble_eq_true rfl) (by first | decide | omega) (fun Φ h9 => c_X10_has (σ := σ) Φ h9) (fun c1 => ?_) (fun c1 => ?_)
  · have h := h.1 c1
    refine q_if_ne (tgt := 17) dX11_without_11 (by decide) (fun _ => ?_) (fun c => absurd c (by decide))
    refine q_aload_n dX11_without_17 rfl ?_
    refine q_getR dX11_without_18 fF_RX11_38 fl_0_5 ?_
    refine q_aload_n dX11_without_21 rfl ?_
    refine q_getR dX11_without_22 fF_RX11_10 fl_0_0 ?_
    refine q_getX (x := (σ 1 9)) dX11_without_25 fF_RX11_137 fl_1_9 rfl ?_
    refine q_cV (d' := 2) [.int (σ 1 9)] [] dX11_without_28 ok_X2_look mk_RX11_140 rc_116 rfl (Nat.le_of_ble_eq_true rfl) (by first | decide | omega) h (fun v σ2 h => ?_)
    obtain ⟨rfl, h⟩ := h
    refine q_aload_n dX11_without_31 rfl ?_
    refine q_getR dX11_without_32 fF_RX11_38 fl_0_5 ?_
    refine q_getR dX11_without_35 fF_RX11_144 fl_116_3 ?_
    refine q_iload_n dX11_without_38 rfl ?_
    obtain ⟨hi3, h⟩ := h
    refine q_ialdX (v := (σ2 117 p1.toNatClampNeg)) dX11_without_39 ar_117 hi3 rfl ?_
    refine q_ldc dX11_without_40 ct_RX11_136 ?_
    refine q_icmp_ne (tgt := 48) dX11_without_42 (by decide) (fun c4 => ?_) (fun c4 => ?_)
    · have h := h.1 c4
      refine q_aload_n dX11_without_48 rfl ?_
      refine q_getR dX11_without_49 fF_RX11_38 fl_0_5 ?_
      refine q_iload_n dX11_without_52 rfl ?_
      refine q_cV (d' := 2) [.int p1] [] dX11_without_53 ok_X2_sendOut mk_RX11_261 rc_116 rfl (Nat.le_of_ble_eq_true rfl) (by first | decide | omega) h (fun v σ5 h => ?_)
      obtain ⟨rfl, h⟩ := h
      refine q_aload_n dX11_without_56 rfl ?_
      refine q_cV (d' := 5) [] [] dX11_without_57 ok_X11_letFall mk_RX11_252 rc_0 rfl (Nat.le_of_ble_eq_true rfl) (by first | decide | omega) h (fun v σ6 h => ?_)
      obtain ⟨r7, rfl, h⟩ := h
      exact q_iret .int rfl rfl dX11_without_60 h
    · have h := h.2 c4
      refine q_ldc dX11_without_45 ct_RX11_150 ?_
      exact q_iret .int rfl rfl dX11_without_47 h
  · have h := h.2 c1
    refine q_if_ne (tgt := 17) dX11_without_11 (by decide) (fun c => absurd rfl c) (fun _ => ?_)
    refine q_ldc dX11_without_14 ct_RX11_70 ?_
    exact q_iret .int rfl rfl dX11_without_16 h

theorem s_X11_broken_0 (g : vt_GT) (σ : vt_Sg) (P : Option Value → vt_Sg → Prop) 
  (h : vt_Mv g 2 D_X2_look [.ref (g.2.1 116), .int (σ 1 9)] σ (fun σ1 => TT g (vt_R 3) 0 0 D_X11_broken none 18 [some (.ref (g.2.1 0)), some (.int 0), some (.int 0), none] [] σ1 P)) :
  TT g (vt_R 3) 0 0 D_X11_broken none 0 [some (.ref (g.2.1 0)), none, none, none] [] σ P := by
  refine q_aload_n dX11_broken_0 rfl ?_
  refine q_getR dX11_broken_1 fF_RX11_38 fl_0_5 ?_
  refine q_aload_n dX11_broken_4 rfl ?_
  refine q_getR dX11_broken_5 fF_RX11_10 fl_0_0 ?_
  refine q_getX (x := (σ 1 9)) dX11_broken_8 fF_RX11_137 fl_1_9 rfl ?_
  refine q_cV (d' := 2) [.int (σ 1 9)] [] dX11_broken_11 ok_X2_look mk_RX11_140 rc_116 rfl (Nat.le_of_ble_eq_true rfl) (by first | decide | omega) h (fun v σ1 h => ?_)
  obtain ⟨rfl, h⟩ := h
  refine q_iconst (v := 0) dX11_broken_14 (by decide) ?_
  refine q_istore_n (L' := [some (.ref (g.2.1 0)), some (.int 0), none, none]) dX11_broken_15 (by decide) rfl rfl ?_
  refine q_iconst (v := 0) dX11_broken_16 (by decide) ?_
  refine q_istore_n (L' := [some (.ref (g.2.1 0)), some (.int 0), some (.int 0), none]) dX11_broken_17 (by decide) rfl rfl ?_
  exact h

theorem s_X11_broken_18 (g : vt_GT) (σ : vt_Sg) (P : Option Value → vt_Sg → Prop) (x1 : Int32) (x2 : Int32)
  (h : ((σ 7 7) ≤ x2 → P (some (.int x1)) σ) ∧ (¬ (σ 7 7) ≤ x2 → TT g (vt_R 3) 0 0 D_X11_broken none 36 [some (.ref (g.2.1 0)), some (.int x1), some (.int x2), some (.int (x2 + 1))] [] σ P)) :
  TT g (vt_R 3) 0 0 D_X11_broken none 18 [some (.ref (g.2.1 0)), some (.int x1), some (.int x2), none] [] σ P := by
  refine q_iload_n dX11_broken_18 rfl ?_
  refine q_aload_n dX11_broken_19 rfl ?_
  refine q_getR dX11_broken_20 fF_RX11_10 fl_0_0 ?_
  refine q_getR dX11_broken_23 fF_RX11_122 fl_1_3 ?_
  refine q_getX (x := (σ 7 7)) dX11_broken_26 fF_RX11_126 fl_7_7 rfl ?_
  refine q_icmp_ge (tgt := 77) dX11_broken_29 (by decide) (fun c1 => ?_) (fun c1 => ?_)
  · have h := h.1 c1
    refine q_iload_n dX11_broken_77 rfl ?_
    exact q_iret .int rfl rfl dX11_broken_78 h
  · have h := h.2 c1
    refine q_iload_n dX11_broken_32 rfl ?_
    refine q_iconst (v := 1) dX11_broken_33 (by decide) ?_
    refine q_iadd dX11_broken_34 ?_
    refine q_istore_n (L' := [some (.ref (g.2.1 0)), some (.int x1), some (.int x2), some (.int (x2 + 1))]) dX11_broken_35 (by decide) rfl rfl ?_
    exact h

theorem s_X11_broken_36 (g : vt_GT) (σ : vt_Sg) (P : Option Value → vt_Sg → Prop) (x1 : Int32) (x2 : Int32) (x3 : Int32)
  (h : ((σ 7 7) ≤ x3 → TT g (vt_R 3) 0 0 D_X11_broken none 18 [some (.ref (g.2.1 0)), some (.int x1), some (.int (x2 + 1)), none] [] σ P) ∧ (¬ (σ 7 7) ≤ x3 → vp_in x2 12 ∧ (vp_in x3 12 ∧ (((¬ σ 117 x2.toNatClampNeg = (-1000000005) ∧ ¬ σ 117 x3.toNatClampNeg = (-1000000005) ∧ σ 9 x2.toNatClampNeg = σ 9 x3.toNatClampNeg ∧ ¬ (if (σ 12 x2.toNatClampNeg) < (σ 12 x3.toNatClampNeg) then (σ 12 x3.toNatClampNeg) else (σ 12 x2.toNatClampNeg)) < (if 0 ≤ ((σ 117 x2.toNatClampNeg) - (σ 117 x3.toNatClampNeg)) then ((σ 117 x2.toNatClampNeg) - (σ 117 x3.toNatClampNeg)) else 0 - ((σ 117 x2.toNatClampNeg) - (σ 117 x3.toNatClampNeg)))) → TT g (vt_R 3) 0 0 D_X11_broken none 36 [some (.ref (g.2.1 0)), some (.int (x1 + 1)), some (.int x2), some (.int (x3 + 1))] [] σ P) ∧ (¬ (¬ σ 117 x2.toNatClampNeg = (-1000000005) ∧ ¬ σ 117 x3.toNatClampNeg = (-1000000005) ∧ σ 9 x2.toNatClampNeg = σ 9 x3.toNatClampNeg ∧ ¬ (if (σ 12 x2.toNatClampNeg) < (σ 12 x3.toNatClampNeg) then (σ 12 x3.toNatClampNeg) else (σ 12 x2.toNatClampNeg)) < (if 0 ≤ ((σ 117 x2.toNatClampNeg) - (σ 117 x3.toNatClampNeg)) then ((σ 117 x2.toNatClampNeg) - (σ 117 x3.toNatClampNeg)) else 0 - ((σ 117 x2.toNatClampNeg) - (σ 117 x3.toNatClampNeg)))) → TT g (vt_R 3) 0 0 D_X11_broken none 36 [some (.ref (g.2.1 0)), some (.int x1), some (.int x2), some (.int (x3 + 1))] [] σ P))))) :
  TT g (vt_R 3) 0 0 D_X11_broken none 36 [some (.ref (g.2.1 0)), some (.int x1), some (.int x2), some (.int x3)] [] σ P := by
  refine q_iload_n dX11_broken_36 rfl ?_
  refine q_aload_n dX11_broken_37 rfl ?_
  refine q_getR dX11_broken_38 fF_RX11_10 fl_0_0 ?_
  refine q_getR dX11_broken_41 fF_RX11_122 fl_1_3 ?_
  refine q_getX (x := (σ 7 7)) dX11_broken_44 fF_RX11_126 fl_7_7 rfl ?_
  refine q_icmp_ge (tgt := 71) dX11_broken_47 (by decide) (fun c1 => ?_) (fun c1 => ?_)
  · have h := h.1 c1
    refine q_iinc (L' := [some (.ref (g.2.1 0)), some (.int x1), some (.int (x2 + 1)), some (.int x3)]) dX11_broken_71 rfl (by decide) rfl rfl ?_
    refine q_goto (tgt := 18) dX11_broken_74 (by decide) ?_
    exact q_wk (by simp [vt_le]) h
  · have h := h.2 c1
    refine q_aload_n dX11_broken_50 rfl ?_
    refine q_getR dX11_broken_51 fF_RX11_38 fl_0_5 ?_
    refine q_iload_n dX11_broken_54 rfl ?_
    refine q_iload_n dX11_broken_55 rfl ?_
    obtain ⟨hp2, h⟩ := h
    obtain ⟨hp3, h⟩ := h
    refine q_cVb (C := ¬ σ 117 x2.toNatClampNeg = (-1000000005) ∧ ¬ σ 117 x3.toNatClampNeg = (-1000000005) ∧ σ 9 x2.toNatClampNeg = σ 9 x3.toNatClampNeg ∧ ¬ (if (σ 12 x2.toNatClampNeg) < (σ 12 x3.toNatClampNeg) then (σ 12 x3.toNatClampNeg) else (σ 12 x2.toNatClampNeg)) < (if 0 ≤ ((σ 117 x2.toNatClampNeg) - (σ 117 x3.toNatClampNeg)) then ((σ 117 x2.toNatClampNeg) - (σ 117 x3.toNatClampNeg)) else 0 - ((σ 117 x2.toNatClampNeg) - (σ 117 x3.toNatClampNeg)))) (d' := 2) [.int x2, .int x3] [] dX11_broken_56 ok_X2_breaks mk_RX11_264 rc_116 rfl (Nat.le_of_ble_eq_true rfl) (by first | decide | omega) (fun Φ h9 => c_X2_breaks (σ := σ) hp2 hp3 Φ h9) (fun c4 => ?_) (fun c4 => ?_)
    · have h := h.1 c4
      refine q_if_eq (tgt := 65) dX11_broken_59 (by decide) (fun c => absurd c (by decide)) (fun _ => ?_)
      refine q_iinc (L' := [some (.ref (g.2.1 0)), some (.int (x1 + 1)), some (.int x2), some (.int x3)]) dX11_broken_62 rfl (by decide) rfl rfl ?_
      refine q_iinc (L' := [some (.ref (g.2.1 0)), some (.int (x1 + 1)), some (.int x2), some (.int (x3 + 1))]) dX11_broken_65 rfl (by decide) rfl rfl ?_
      refine q_goto (tgt := 36) dX11_broken_68 (by decide) ?_
      exact h
    · have h := h.2 c4
      refine q_if_eq (tgt := 65) dX11_broken_59 (by decide) (fun _ => ?_) (fun c => absurd (by decide) c)
      refine q_iinc (L' := [some (.ref (g.2.1 0)), some (.int x1), some (.int x2), some (.int (x3 + 1))]) dX11_broken_65 rfl (by decide) rfl rfl ?_
      refine q_goto (tgt := 36) dX11_broken_68 (by decide) ?_
      exact h

theorem s_X11_mix_0 (g : vt_GT) (σ : vt_Sg) (P : Option Value → vt_Sg → Prop) (p1 : Int32)
  (h : ((¬ p1 < 1 ∧ ¬ 50000 < p1) → vt_Mi g 42 D_X11_seek [.ref (g.2.1 0), .int p1] σ (fun r3 σ2 => (r3 = 0 → P (some (.int (-1000000004))) σ2) ∧ (¬ r3 = 0 → P (some (.int (σ2 123 1))) σ2))) ∧ (¬ (¬ p1 < 1 ∧ ¬ 50000 < p1) → P (some (.int (-1000000001))) σ)) :
  TT g (vt_R 43) 0 0 D_X11_mix none 0 [some (.ref (g.2.1 0)), some (.int p1)] [] σ P := by
  refine q_iload_n dX11_mix_0 rfl ?_
  refine q_cSb (C := ¬ p1 < 1 ∧ ¬ 50000 < p1) (d' := 1) [.int p1] [] dX11_mix_1 ok_X11_isTries mk_RX11_268 rfl (Nat.le_of_ble_eq_true rfl) (by first | decide | omega) (fun Φ h9 => c_X11_isTries (σ := σ) Φ h9) (fun c1 => ?_) (fun c1 => ?_)
  · have h := h.1 c1
    refine q_if_ne (tgt := 10) dX11_mix_4 (by decide) (fun _ => ?_) (fun c => absurd c (by decide))
    refine q_aload_n dX11_mix_10 rfl ?_
    refine q_iload_n dX11_mix_11 rfl ?_
    refine q_cV (d' := 42) [.int p1] [] dX11_mix_12 ok_X11_seek mk_RX11_271 rc_0 rfl (Nat.le_of_ble_eq_true rfl) (by first | decide | omega) h (fun v σ2 h => ?_)
    obtain ⟨r3, rfl, h⟩ := h
    refine q_if_eq (tgt := 28) dX11_mix_15 (by decide) (fun c4 => ?_) (fun c4 => ?_)
    · have h := h.1 c4
      refine q_ldcw dX11_mix_28 ct_RX11_277 ?_
      exact q_iret .int rfl rfl dX11_mix_31 h
    · have h := h.2 c4
      refine q_aload_n dX11_mix_18 rfl ?_
      refine q_getR dX11_mix_19 fF_RX11_52 fl_0_7 ?_
      refine q_getX (x := (σ2 123 1)) dX11_mix_22 fF_RX11_274 fl_123_1 rfl ?_
      refine q_goto (tgt := 31) dX11_mix_25 (by decide) ?_
      exact q_iret .int rfl rfl dX11_mix_31 h
  · have h := h.2 c1
    refine q_if_ne (tgt := 10) dX11_mix_4 (by decide) (fun c => absurd rfl c) (fun _ => ?_)
    refine q_ldc dX11_mix_7 ct_RX11_70 ?_
    exact q_iret .int rfl rfl dX11_mix_9 h

theorem s_X11_mixed_0 (g : vt_GT) (σ : vt_Sg) (P : Option Value → vt_Sg → Prop) (p1 : Int32) (p2 : Int32)
  (h : ((¬ p1 < 1 ∧ ¬ 50000 < p1) → ((¬ p2 < 0 ∧ ¬ 11 < p2) → vt_Mi g 42 D_X11_seek [.ref (g.2.1 0), .int p1] σ (fun r4 σ3 => (r4 = 0 → P (some (.int (-1000000004))) σ3) ∧ (¬ r4 = 0 → vp_in p2 12 ∧ (P (some (.int (σ3 124 p2.toNatClampNeg))) σ3)))) ∧ (¬ (¬ p2 < 0 ∧ ¬ 11 < p2) → P (some (.int (-1000000001))) σ)) ∧ (¬ (¬ p1 < 1 ∧ ¬ 50000 < p1) → P (some (.int (-1000000001))) σ)) :
  TT g (vt_R 43) 0 0 D_X11_mixed none 0 [some (.ref (g.2.1 0)), some (.int p1), some (.int p2)] [] σ P := by
  refine q_iload_n dX11_mixed_0 rfl ?_
  refine q_cSb (C := ¬ p1 < 1 ∧ ¬ 50000 < p1) (d' := 1) [.int p1] [] dX11_mixed_1 ok_X11_isTries mk_RX11_268 rfl (Nat.le_of_ble_eq_true rfl) (by first | decide | omega) (fun Φ h9 => c_X11_isTries (σ := σ) Φ h9) (fun c1 => ?_) (fun c1 => ?_)
  · have h := h.1 c1
    refine q_if_eq (tgt := 14) dX11_mixed_4 (by decide) (fun c => absurd c (by decide)) (fun _ => ?_)
    refine q_iload_n dX11_mixed_7 rfl ?_
    refine q_cSb (C := ¬ p2 < 0 ∧ ¬ 11 < p2) (d' := 1) [.int p2] [] dX11_mixed_8 ok_X11_isPlace mk_RX11_63 rfl (Nat.le_of_ble_eq_true rfl) (by first | decide | omega) (fun Φ h9 => c_X11_isPlace (σ := σ) Φ h9) (fun c2 => ?_) (fun c2 => ?_)
    · have h := h.1 c2
      refine q_if_ne (tgt := 17) dX11_mixed_11 (by decide) (fun _ => ?_) (fun c => absurd c (by decide))
      refine q_aload_n dX11_mixed_17 rfl ?_
      refine q_iload_n dX11_mixed_18 rfl ?_
      refine q_cV (d' := 42) [.int p1] [] dX11_mixed_19 ok_X11_seek mk_RX11_271 rc_0 rfl (Nat.le_of_ble_eq_true rfl) (by first | decide | omega) h (fun v σ3 h => ?_)
      obtain ⟨r4, rfl, h⟩ := h
      refine q_if_eq (tgt := 37) dX11_mixed_22 (by decide) (fun c5 => ?_) (fun c5 => ?_)
      · have h := h.1 c5
        refine q_ldcw dX11_mixed_37 ct_RX11_277 ?_
        exact q_iret .int rfl rfl dX11_mixed_40 h
      · have h := h.2 c5
        refine q_aload_n dX11_mixed_25 rfl ?_
        refine q_getR dX11_mixed_26 fF_RX11_52 fl_0_7 ?_
        refine q_getR dX11_mixed_29 fF_RX11_278 fl_123_0 ?_
        refine q_iload_n dX11_mixed_32 rfl ?_
        obtain ⟨hi6, h⟩ := h
        refine q_ialdX (v := (σ3 124 p2.toNatClampNeg)) dX11_mixed_33 ar_124 hi6 rfl ?_
        refine q_goto (tgt := 40) dX11_mixed_34 (by decide) ?_
        exact q_iret .int rfl rfl dX11_mixed_40 h
    · have h := h.2 c2
      refine q_if_ne (tgt := 17) dX11_mixed_11 (by decide) (fun c => absurd rfl c) (fun _ => ?_)
      refine q_ldc dX11_mixed_14 ct_RX11_70 ?_
      exact q_iret .int rfl rfl dX11_mixed_16 h
  · have h := h.2 c1
    refine q_if_eq (tgt := 14) dX11_mixed_4 (by decide) (fun _ => ?_) (fun c => absurd (by decide) c)
    refine q_ldc dX11_mixed_14 ct_RX11_70 ?_
    exact q_iret .int rfl rfl dX11_mixed_16 h

theorem s_X11_tell_0 (g : vt_GT) (σ : vt_Sg) (P : Option Value → vt_Sg → Prop) (p1 : Int32)
  (h : ((σ 0 10) < 24 → vp_in (σ 0 10) 24 ∧ (P (some (.int ((σ 0 10) + 1))) (su (su σ 167 (upd (σ 167) ((σ 0 10).toNatClampNeg) p1)) 0 (upd (σ 0) 10 ((σ 0 10) + 1))))) ∧ (¬ (σ 0 10) < 24 → P (some (.int (-1000000003))) σ)) :
  TT g (vt_R 0) 0 0 D_X11_tell none 0 [some (.ref (g.2.1 0)), some (.int p1)] [] σ P := by
  refine q_aload_n dX11_tell_0 rfl ?_
  refine q_getX (x := (σ 0 10)) dX11_tell_1 fF_RX11_281 fl_0_10 rfl ?_
  refine q_bipush (v := 24) dX11_tell_4 (by decide) ?_
  refine q_icmp_lt (tgt := 12) dX11_tell_6 (by decide) (fun c1 => ?_) (fun c1 => ?_)
  · have h := h.1 c1
    refine q_aload_n dX11_tell_12 rfl ?_
    refine q_getR dX11_tell_13 fF_RX11_60 fl_0_9 ?_
    refine q_aload_n dX11_tell_16 rfl ?_
    refine q_getX (x := (σ 0 10)) dX11_tell_17 fF_RX11_281 fl_0_10 rfl ?_
    refine q_iload_n dX11_tell_20 rfl ?_
    obtain ⟨hi2, h⟩ := h
    refine q_iastX (F := upd (σ 167) ((σ 0 10).toNatClampNeg) p1) dX11_tell_21 ar_167 hi2 rfl ?_
    refine q_aload_n dX11_tell_22 rfl ?_
    refine q_dup dX11_tell_23 rfl ?_
    refine q_getX (x := (σ 0 10)) dX11_tell_24 fF_RX11_281 fl_0_10 rfl ?_
    refine q_iconst (v := 1) dX11_tell_27 (by decide) ?_
    refine q_iadd dX11_tell_28 ?_
    refine q_putX (F := upd (σ 0) 10 ((σ 0 10) + 1)) dX11_tell_29 fF_RX11_281 fP_11_10 fl_0_10 rfl ?_
    refine q_aload_n dX11_tell_32 rfl ?_
    refine q_getX (x := ((σ 0 10) + 1)) dX11_tell_33 fF_RX11_281 fl_0_10 rfl ?_
    exact q_iret .int rfl rfl dX11_tell_36 h
  · have h := h.2 c1
    refine q_ldc dX11_tell_9 ct_RX11_107 ?_
    exact q_iret .int rfl rfl dX11_tell_11 h

theorem s_X11_check_0 (g : vt_GT) (σ : vt_Sg) (P : Option Value → vt_Sg → Prop) 
  (h : vt_Mi g 42 D_X11_seek [.ref (g.2.1 0), .int 50000] (su σ 0 (upd (σ 0) 10 0)) (fun r2 σ1 => (¬ r2 = 0 → TT g (vt_R 43) 0 0 D_X11_check none 28 [some (.ref (g.2.1 0)), some (.int (σ 0 10)), some (.int 0), some (.int 0), none] [] σ1 P) ∧ (r2 = 0 → P (some (.int (-1000000004))) σ1))) :
  TT g (vt_R 43) 0 0 D_X11_check none 0 [some (.ref (g.2.1 0)), none, none, none, none] [] σ P := by
  refine q_aload_n dX11_check_0 rfl ?_
  refine q_getX (x := (σ 0 10)) dX11_check_1 fF_RX11_281 fl_0_10 rfl ?_
  refine q_istore_n (L' := [some (.ref (g.2.1 0)), some (.int (σ 0 10)), none, none, none]) dX11_check_4 (by decide) rfl rfl ?_
  refine q_aload_n dX11_check_5 rfl ?_
  refine q_iconst (v := 0) dX11_check_6 (by decide) ?_
  refine q_putX (F := upd (σ 0) 10 0) dX11_check_7 fF_RX11_281 fP_11_10 fl_0_10 rfl ?_
  refine q_aload_n dX11_check_10 rfl ?_
  refine q_ldcw dX11_check_11 ct_RX11_284 ?_
  refine q_cV (d' := 42) [.int 50000] [] dX11_check_14 ok_X11_seek mk_RX11_271 rc_0 rfl (Nat.le_of_ble_eq_true rfl) (by first | decide | omega) h (fun v σ1 h => ?_)
  obtain ⟨r2, rfl, h⟩ := h
  refine q_if_ne (tgt := 24) dX11_check_17 (by decide) (fun c3 => ?_) (fun c3 => ?_)
  · have h := h.1 c3
    refine q_iconst (v := 0) dX11_check_24 (by decide) ?_
    refine q_istore_n (L' := [some (.ref (g.2.1 0)), some (.int (σ 0 10)), some (.int 0), none, none]) dX11_check_25 (by decide) rfl rfl ?_
    refine q_iconst (v := 0) dX11_check_26 (by decide) ?_
    refine q_istore_n (L' := [some (.ref (g.2.1 0)), some (.int (σ 0 10)), some (.int 0), some (.int 0), none]) dX11_check_27 (by decide) rfl rfl ?_
    exact h
  · have h := h.2 c3
    refine q_ldcw dX11_check_20 ct_RX11_277 ?_
    exact q_iret .int rfl rfl dX11_check_23 h

theorem s_X11_check_28 (g : vt_GT) (σ : vt_Sg) (P : Option Value → vt_Sg → Prop) (x1 : Int32) (x2 : Int32) (x3 : Int32)
  (h : (12 ≤ x3 → (¬ x2 = x1 → P (some (.int (1 + x2))) σ) ∧ (x2 = x1 → P (some (.int 0)) σ)) ∧ (¬ 12 ≤ x3 → vp_in x3 12 ∧ ((¬ (σ 124 x3.toNatClampNeg) = (-1000000005) → (x1 ≤ x2 → P (some (.int (1 + x2))) σ) ∧ (¬ x1 ≤ x2 → vp_in x2 24 ∧ (((σ 167 x2.toNatClampNeg) = x3 → (x1 ≤ (x2 + 1) → P (some (.int (1 + (x2 + 1)))) σ) ∧ (¬ x1 ≤ (x2 + 1) → vp_in (x2 + 1) 24 ∧ (((σ 167 (x2 + 1).toNatClampNeg) = (σ 124 x3.toNatClampNeg) → TT g (vt_R 43) 0 0 D_X11_check none 28 [some (.ref (g.2.1 0)), some (.int x1), some (.int ((x2 + 1) + 1)), some (.int (x3 + 1)), none] [] σ P) ∧ (¬ (σ 167 (x2 + 1).toNatClampNeg) = (σ 124 x3.toNatClampNeg) → P (some (.int (1 + (x2 + 1)))) σ)))) ∧ (¬ (σ 167 x2.toNatClampNeg) = x3 → P (some (.int (1 + x2))) σ)))) ∧ ((σ 124 x3.toNatClampNeg) = (-1000000005) → TT g (vt_R 43) 0 0 D_X11_check none 28 [some (.ref (g.2.1 0)), some (.int x1), some (.int x2), some (.int (x3 + 1)), none] [] σ P)))) :
  TT g (vt_R 43) 0 0 D_X11_check none 28 [some (.ref (g.2.1 0)), some (.int x1), some (.int x2), some (.int x3), none] [] σ P := by
  refine q_iload_n dX11_check_28 rfl ?_
  refine q_bipush (v := 12) dX11_check_29 (by decide) ?_
  refine q_icmp_ge (tgt := 106) dX11_check_31 (by decide) (fun c1 => ?_) (fun c1 => ?_)
  · have h := h.1 c1
    refine q_iload_n dX11_check_106 rfl ?_
    refine q_iload_n dX11_check_107 rfl ?_
    refine q_icmp_ne (tgt := 115) dX11_check_108 (by decide) (fun c2 => ?_) (fun c2 => ?_)
    · have h := h.1 c2
      refine q_iconst (v := 1) dX11_check_115 (by decide) ?_
      refine q_iload_n dX11_check_116 rfl ?_
      refine q_iadd dX11_check_117 ?_
      exact q_iret .int rfl rfl dX11_check_118 h
    · have h := h.2 c2
      refine q_iconst (v := 0) dX11_check_111 (by decide) ?_
      refine q_goto (tgt := 118) dX11_check_112 (by decide) ?_
      exact q_iret .int rfl rfl dX11_check_118 h
  · have h := h.2 c1
    refine q_aload_n dX11_check_34 rfl ?_
    refine q_getR dX11_check_35 fF_RX11_52 fl_0_7 ?_
    refine q_getR dX11_check_38 fF_RX11_278 fl_123_0 ?_
    refine q_iload_n dX11_check_41 rfl ?_
    obtain ⟨hi3, h⟩ := h
    refine q_ialdX (v := (σ 124 x3.toNatClampNeg)) dX11_check_42 ar_124 hi3 rfl ?_
    refine q_istore (L' := [some (.ref (g.2.1 0)), some (.int x1), some (.int x2), some (.int x3), some (.int (σ 124 x3.toNatClampNeg))]) dX11_check_43 (by decide) rfl rfl ?_
    refine q_iload dX11_check_45 rfl ?_
    refine q_ldc dX11_check_47 ct_RX11_136 ?_
    refine q_icmp_ne (tgt := 55) dX11_check_49 (by decide) (fun c4 => ?_) (fun c4 => ?_)
    · have h := h.1 c4
      refine q_iload_n dX11_check_55 rfl ?_
      refine q_iload_n dX11_check_56 rfl ?_
      refine q_icmp_ge (tgt := 70) dX11_check_57 (by decide) (fun c5 => ?_) (fun c5 => ?_)
      · have h := h.1 c5
        refine q_iconst (v := 1) dX11_check_70 (by decide) ?_
        refine q_iload_n dX11_check_71 rfl ?_
        refine q_iadd dX11_check_72 ?_
        exact q_iret .int rfl rfl dX11_check_73 h
      · have h := h.2 c5
        refine q_aload_n dX11_check_60 rfl ?_
        refine q_getR dX11_check_61 fF_RX11_60 fl_0_9 ?_
        refine q_iload_n dX11_check_64 rfl ?_
        obtain ⟨hi6, h⟩ := h
        refine q_ialdX (v := (σ 167 x2.toNatClampNeg)) dX11_check_65 ar_167 hi6 rfl ?_
        refine q_iload_n dX11_check_66 rfl ?_
        refine q_icmp_eq (tgt := 74) dX11_check_67 (by decide) (fun c7 => ?_) (fun c7 => ?_)
        · have h := h.1 c7
          refine q_iinc (L' := [some (.ref (g.2.1 0)), some (.int x1), some (.int (x2 + 1)), some (.int x3), some (.int (σ 124 x3.toNatClampNeg))]) dX11_check_74 rfl (by decide) rfl rfl ?_
          refine q_iload_n dX11_check_77 rfl ?_
          refine q_iload_n dX11_check_78 rfl ?_
          refine q_icmp_ge (tgt := 93) dX11_check_79 (by decide) (fun c8 => ?_) (fun c8 => ?_)
          · have h := h.1 c8
            refine q_iconst (v := 1) dX11_check_93 (by decide) ?_
            refine q_iload_n dX11_check_94 rfl ?_
            refine q_iadd dX11_check_95 ?_
            exact q_iret .int rfl rfl dX11_check_96 h
          · have h := h.2 c8
            refine q_aload_n dX11_check_82 rfl ?_
            refine q_getR dX11_check_83 fF_RX11_60 fl_0_9 ?_
            refine q_iload_n dX11_check_86 rfl ?_
            obtain ⟨hi9, h⟩ := h
            refine q_ialdX (v := (σ 167 (x2 + 1).toNatClampNeg)) dX11_check_87 ar_167 hi9 rfl ?_
            refine q_iload dX11_check_88 rfl ?_
            refine q_icmp_eq (tgt := 97) dX11_check_90 (by decide) (fun c10 => ?_) (fun c10 => ?_)
            · have h := h.1 c10
              refine q_iinc (L' := [some (.ref (g.2.1 0)), some (.int x1), some (.int ((x2 + 1) + 1)), some (.int x3), some (.int (σ 124 x3.toNatClampNeg))]) dX11_check_97 rfl (by decide) rfl rfl ?_
              refine q_iinc (L' := [some (.ref (g.2.1 0)), some (.int x1), some (.int ((x2 + 1) + 1)), some (.int (x3 + 1)), some (.int (σ 124 x3.toNatClampNeg))]) dX11_check_100 rfl (by decide) rfl rfl ?_
              refine q_goto (tgt := 28) dX11_check_103 (by decide) ?_
              exact q_wk (by simp [vt_le]) h
            · have h := h.2 c10
              refine q_iconst (v := 1) dX11_check_93 (by decide) ?_
              refine q_iload_n dX11_check_94 rfl ?_
              refine q_iadd dX11_check_95 ?_
              exact q_iret .int rfl rfl dX11_check_96 h
        · have h := h.2 c7
          refine q_iconst (v := 1) dX11_check_70 (by decide) ?_
          refine q_iload_n dX11_check_71 rfl ?_
          refine q_iadd dX11_check_72 ?_
          exact q_iret .int rfl rfl dX11_check_73 h
    · have h := h.2 c4
      refine q_goto (tgt := 100) dX11_check_52 (by decide) ?_
      refine q_iinc (L' := [some (.ref (g.2.1 0)), some (.int x1), some (.int x2), some (.int (x3 + 1)), some (.int (σ 124 x3.toNatClampNeg))]) dX11_check_100 rfl (by decide) rfl rfl ?_
      refine q_goto (tgt := 28) dX11_check_103 (by decide) ?_
      exact q_wk (by simp [vt_le]) h

theorem s_X11_keep_0 (g : vt_GT) (σ : vt_Sg) (P : Option Value → vt_Sg → Prop) 
  (h : vt_Mv g 2 D_X0_become [.ref (g.2.1 54), .ref (g.2.1 1)] σ (fun σ1 => P (some (.int (σ1 1 9))) (su σ1 0 (upd (σ1 0) 2 1)))) :
  TT g (vt_R 3) 0 0 D_X11_keep none 0 [some (.ref (g.2.1 0))] [] σ P := by
  refine q_aload_n dX11_keep_0 rfl ?_
  refine q_getR dX11_keep_1 fF_RX11_16 fl_0_1 ?_
  refine q_aload_n dX11_keep_4 rfl ?_
  refine q_getR dX11_keep_5 fF_RX11_10 fl_0_0 ?_
  refine q_cV (d' := 2) [.ref (g.2.1 1)] [] dX11_keep_8 ok_X0_become mk_RX11_285 rc_54 rfl (Nat.le_of_ble_eq_true rfl) (by first | decide | omega) h (fun v σ1 h => ?_)
  obtain ⟨rfl, h⟩ := h
  refine q_aload_n dX11_keep_11 rfl ?_
  refine q_iconst (v := 1) dX11_keep_12 (by decide) ?_
  refine q_putXZ (F := upd (σ1 0) 2 1) dX11_keep_13 fF_RX11_288 fP_11_2 fl_0_2 (by decide) rfl ?_
  refine q_aload_n dX11_keep_16 rfl ?_
  refine q_getR dX11_keep_17 fF_RX11_10 fl_0_0 ?_
  refine q_getX (x := (σ1 1 9)) dX11_keep_20 fF_RX11_137 fl_1_9 rfl ?_
  exact q_iret .int rfl rfl dX11_keep_23 h

theorem s_X11_back_0 (g : vt_GT) (σ : vt_Sg) (P : Option Value → vt_Sg → Prop) 
  (h : (¬ (σ 0 2) = 0 → vt_Mv g 2 D_X0_become [.ref (g.2.1 1), .ref (g.2.1 54)] σ (fun σ2 => P (some (.int (σ2 1 9))) σ2)) ∧ ((σ 0 2) = 0 → P (some (.int (-1000000002))) σ)) :
  TT g (vt_R 3) 0 0 D_X11_back none 0 [some (.ref (g.2.1 0))] [] σ P := by
  refine q_aload_n dX11_back_0 rfl ?_
  refine q_getX (x := (σ 0 2)) dX11_back_1 fF_RX11_288 fl_0_2 rfl ?_
  refine q_if_ne (tgt := 10) dX11_back_4 (by decide) (fun c1 => ?_) (fun c1 => ?_)
  · have h := h.1 c1
    refine q_aload_n dX11_back_10 rfl ?_
    refine q_getR dX11_back_11 fF_RX11_10 fl_0_0 ?_
    refine q_aload_n dX11_back_14 rfl ?_
    refine q_getR dX11_back_15 fF_RX11_16 fl_0_1 ?_
    refine q_cV (d' := 2) [.ref (g.2.1 54)] [] dX11_back_18 ok_X0_become mk_RX11_285 rc_1 rfl (Nat.le_of_ble_eq_true rfl) (by first | decide | omega) h (fun v σ2 h => ?_)
    obtain ⟨rfl, h⟩ := h
    refine q_aload_n dX11_back_21 rfl ?_
    refine q_getR dX11_back_22 fF_RX11_10 fl_0_0 ?_
    refine q_getX (x := (σ2 1 9)) dX11_back_25 fF_RX11_137 fl_1_9 rfl ?_
    exact q_iret .int rfl rfl dX11_back_28 h
  · have h := h.2 c1
    refine q_ldc dX11_back_7 ct_RX11_150 ?_
    exact q_iret .int rfl rfl dX11_back_9 h

theorem s_X11_sheet_0 (g : vt_GT) (σ : vt_Sg) (P : Option Value → vt_Sg → Prop) (p1 : Int32) (p2 : Int32)
  (h : ((p1 = 0 ∨ p1 = 1) → (p2 ≤ 16 → (0 ≤ p2 → vt_Mv g 1 D_X9_begin [.ref (g.2.1 111), .int p1, .int p2] σ (fun σ4 => P (some (.int p2)) σ4)) ∧ (¬ 0 ≤ p2 → P (some (.int (-1000000014))) σ)) ∧ (¬ p2 ≤ 16 → P (some (.int (-1000000001))) σ)) ∧ (¬ (p1 = 0 ∨ p1 = 1) → P (some (.int (-1000000001))) σ)) :
  TT g (vt_R 2) 0 0 D_X11_sheet none 0 [some (.ref (g.2.1 0)), some (.int p1), some (.int p2)] [] σ P := by
  refine q_iload_n dX11_sheet_0 rfl ?_
  refine q_cSb (C := p1 = 0 ∨ p1 = 1) (d' := 0) [.int p1] [] dX11_sheet_1 ok_X9_isSheet mk_RX11_74 rfl (Nat.le_of_ble_eq_true rfl) (by first | decide | omega) (fun Φ h9 => c_X9_isSheet (σ := σ) Φ h9) (fun c1 => ?_) (fun c1 => ?_)
  · have h := h.1 c1
    refine q_if_eq (tgt := 13) dX11_sheet_4 (by decide) (fun c => absurd c (by decide)) (fun _ => ?_)
    refine q_iload_n dX11_sheet_7 rfl ?_
    refine q_bipush (v := 16) dX11_sheet_8 (by decide) ?_
    refine q_icmp_le (tgt := 16) dX11_sheet_10 (by decide) (fun c2 => ?_) (fun c2 => ?_)
    · have h := h.1 c2
      refine q_iload_n dX11_sheet_16 rfl ?_
      refine q_if_ge (tgt := 24) dX11_sheet_17 (by decide) (fun c3 => ?_) (fun c3 => ?_)
      · have h := h.1 c3
        refine q_aload_n dX11_sheet_24 rfl ?_
        refine q_getR dX11_sheet_25 fF_RX11_29 fl_0_4 ?_
        refine q_iload_n dX11_sheet_28 rfl ?_
        refine q_iload_n dX11_sheet_29 rfl ?_
        refine q_cV (d' := 1) [.int p1, .int p2] [] dX11_sheet_30 ok_X9_begin mk_RX11_293 rc_111 rfl (Nat.le_of_ble_eq_true rfl) (by first | decide | omega) h (fun v σ4 h => ?_)
        obtain ⟨rfl, h⟩ := h
        refine q_iload_n dX11_sheet_33 rfl ?_
        exact q_iret .int rfl rfl dX11_sheet_34 h
      · have h := h.2 c3
        refine q_ldcw dX11_sheet_20 ct_RX11_292 ?_
        exact q_iret .int rfl rfl dX11_sheet_23 h
    · have h := h.2 c2
      refine q_ldc dX11_sheet_13 ct_RX11_70 ?_
      exact q_iret .int rfl rfl dX11_sheet_15 h
  · have h := h.2 c1
    refine q_if_eq (tgt := 13) dX11_sheet_4 (by decide) (fun _ => ?_) (fun c => absurd (by decide) c)
    refine q_ldc dX11_sheet_13 ct_RX11_70 ?_
    exact q_iret .int rfl rfl dX11_sheet_15 h

theorem s_X11_mark_0 (g : vt_GT) (σ : vt_Sg) (P : Option Value → vt_Sg → Prop) (p1 : Int32) (p2 : Int32) (p3 : Int32)
  (h : ((p1 = 0 ∨ p1 = 1) → vp_in p1 2 ∧ (((σ 115 p1.toNatClampNeg = (-1)) → P (some (.int (-1000000011))) σ) ∧ (¬ (σ 115 p1.toNatClampNeg = (-1)) → ((¬ p2 < 0 ∧ ¬ (1 : Int32) < 0 ∧ ¬ (σ 115 p1.toNatClampNeg) < p2 ∧ ¬ (σ 115 p1.toNatClampNeg) - p2 < (1 : Int32)) → vp_in p2 16 ∧ (P (some (.int ((σ (113 + p1.toNatClampNeg)) p2.toNatClampNeg))) (su σ (113 + p1.toNatClampNeg) (upd (σ (113 + p1.toNatClampNeg)) p2.toNatClampNeg (vp_nar .short p3.toInt16.toInt32))))) ∧ (¬ (¬ p2 < 0 ∧ ¬ (1 : Int32) < 0 ∧ ¬ (σ 115 p1.toNatClampNeg) < p2 ∧ ¬ (σ 115 p1.toNatClampNeg) - p2 < (1 : Int32)) → P (some (.int (-1000000013))) σ)))) ∧ (¬ (p1 = 0 ∨ p1 = 1) → P (some (.int (-1000000001))) σ)) :
  TT g (vt_R 1) 0 0 D_X11_mark none 0 [some (.ref (g.2.1 0)), some (.int p1), some (.int p2), some (.int p3), none] [] σ P := by
  refine q_iload_n dX11_mark_0 rfl ?_
  refine q_cSb (C := p1 = 0 ∨ p1 = 1) (d' := 0) [.int p1] [] dX11_mark_1 ok_X9_isSheet mk_RX11_74 rfl (Nat.le_of_ble_eq_true rfl) (by first | decide | omega) (fun Φ h9 => c_X9_isSheet (σ := σ) Φ h9) (fun c1 => ?_) (fun c1 => ?_)
  · have h := h.1 c1
    refine q_if_ne (tgt := 10) dX11_mark_4 (by decide) (fun _ => ?_) (fun c => absurd c (by decide))
    refine q_aload_n dX11_mark_10 rfl ?_
    refine q_getR dX11_mark_11 fF_RX11_29 fl_0_4 ?_
    refine q_iload_n dX11_mark_14 rfl ?_
    obtain ⟨hp2, h⟩ := h
    refine q_cVb (C := σ 115 p1.toNatClampNeg = (-1)) (d' := 0) [.int p1] [] dX11_mark_15 ok_X9_isMissing mk_RX11_77 rc_111 rfl (Nat.le_of_ble_eq_true rfl) (by first | decide | omega) (fun Φ h9 => c_X9_isMissing (σ := σ) hp2 Φ h9) (fun c3 => ?_) (fun c3 => ?_)
    · have h := h.1 c3
      refine q_if_eq (tgt := 24) dX11_mark_18 (by decide) (fun c => absurd c (by decide)) (fun _ => ?_)
      refine q_ldc dX11_mark_21 ct_RX11_80 ?_
      exact q_iret .int rfl rfl dX11_mark_23 h
    · have h := h.2 c3
      refine q_if_eq (tgt := 24) dX11_mark_18 (by decide) (fun _ => ?_) (fun c => absurd (by decide) c)
      refine q_aload_n dX11_mark_24 rfl ?_
      refine q_getR dX11_mark_25 fF_RX11_29 fl_0_4 ?_
      refine q_iload_n dX11_mark_28 rfl ?_
      refine q_iload_n dX11_mark_29 rfl ?_
      refine q_iconst (v := 1) dX11_mark_30 (by decide) ?_
      refine q_cVb (C := ¬ p2 < 0 ∧ ¬ (1 : Int32) < 0 ∧ ¬ (σ 115 p1.toNatClampNeg) < p2 ∧ ¬ (σ 115 p1.toNatClampNeg) - p2 < (1 : Int32)) (d' := 0) [.int p1, .int p2, .int 1] [] dX11_mark_31 ok_X9_reaches mk_RX11_297 rc_111 rfl (Nat.le_of_ble_eq_true rfl) (by first | decide | omega) (fun Φ h9 => c_X9_reaches (σ := σ) hp2 Φ h9) (fun c4 => ?_) (fun c4 => ?_)
      · have h := h.1 c4
        refine q_if_ne (tgt := 41) dX11_mark_34 (by decide) (fun _ => ?_) (fun c => absurd c (by decide))
        refine q_aload_n dX11_mark_41 rfl ?_
        refine q_getR dX11_mark_42 fF_RX11_29 fl_0_4 ?_
        refine q_getR dX11_mark_45 fF_RX11_90 fl_111_0 ?_
        refine q_iload_n dX11_mark_48 rfl ?_
        refine q_aald dX11_mark_49 ar2_112 (by decide) hp2 ?_
        refine q_iload_n dX11_mark_50 rfl ?_
        obtain ⟨hi5, h⟩ := h
        refine q_saldX (v := ((σ (113 + p1.toNatClampNeg)) p2.toNatClampNeg)) dX11_mark_51 (rw_112 hp2) hi5 rfl ?_
        refine q_istore (L' := [some (.ref (g.2.1 0)), some (.int p1), some (.int p2), some (.int p3), some (.int ((σ (113 + p1.toNatClampNeg)) p2.toNatClampNeg))]) dX11_mark_52 (by decide) rfl rfl ?_
        refine q_aload_n dX11_mark_54 rfl ?_
        refine q_getR dX11_mark_55 fF_RX11_29 fl_0_4 ?_
        refine q_getR dX11_mark_58 fF_RX11_90 fl_111_0 ?_
        refine q_iload_n dX11_mark_61 rfl ?_
        refine q_aald dX11_mark_62 ar2_112 (by decide) hp2 ?_
        refine q_iload_n dX11_mark_63 rfl ?_
        refine q_iload_n dX11_mark_64 rfl ?_
        refine q_i2s dX11_mark_65 ?_
        refine q_sastX (F := upd (σ (113 + p1.toNatClampNeg)) p2.toNatClampNeg (vp_nar .short p3.toInt16.toInt32)) dX11_mark_66 (rw_112 hp2) hi5 rfl ?_
        refine q_iload dX11_mark_67 rfl ?_
        exact q_iret .int rfl rfl dX11_mark_69 h
      · have h := h.2 c4
        refine q_if_ne (tgt := 41) dX11_mark_34 (by decide) (fun c => absurd rfl c) (fun _ => ?_)
        refine q_ldcw dX11_mark_37 ct_RX11_300 ?_
        exact q_iret .int rfl rfl dX11_mark_40 h
  · have h := h.2 c1
    refine q_if_ne (tgt := 10) dX11_mark_4 (by decide) (fun c => absurd rfl c) (fun _ => ?_)
    refine q_ldc dX11_mark_7 ct_RX11_70 ?_
    exact q_iret .int rfl rfl dX11_mark_9 h

theorem s_X11_copy_0 (g : vt_GT) (σ : vt_Sg) (P : Option Value → vt_Sg → Prop) (p1 : Int32) (p2 : Int32) (p3 : Int32) (p4 : Int32) (p5 : Int32)
  (h : ((p1 = 0 ∨ p1 = 1) → ((p3 = 0 ∨ p3 = 1) → vp_in p1 2 ∧ (((σ 115 p1.toNatClampNeg = (-1)) → P (some (.int (-1000000011))) σ) ∧ (¬ (σ 115 p1.toNatClampNeg = (-1)) → vp_in p3 2 ∧ (((σ 115 p3.toNatClampNeg = (-1)) → P (some (.int (-1000000011))) σ) ∧ (¬ (σ 115 p3.toNatClampNeg = (-1)) → ((¬ p2 < 0 ∧ ¬ p5 < 0 ∧ ¬ (σ 115 p1.toNatClampNeg) < p2 ∧ ¬ (σ 115 p1.toNatClampNeg) - p2 < p5) → ((¬ p4 < 0 ∧ ¬ p5 < 0 ∧ ¬ (σ 115 p3.toNatClampNeg) < p4 ∧ ¬ (σ 115 p3.toNatClampNeg) - p4 < p5) → (¬ p2 < 0 ∧ ¬ p4 < 0 ∧ ¬ p5 < 0 ∧ p2.toNatClampNeg + p5.toNatClampNeg ≤ 16 ∧ p4.toNatClampNeg + p5.toNatClampNeg ≤ 16 ∧ (∀ i, i < p5.toNatClampNeg → fits .short (.int ((σ (113 + p1.toNatClampNeg)) (p2.toNatClampNeg + i))) = true)) ∧ (P (some (.int p5)) (su σ (113 + p3.toNatClampNeg) (va_cpy (σ (113 + p1.toNatClampNeg)) (σ (113 + p3.toNatClampNeg)) p2.toNatClampNeg p4.toNatClampNeg p5.toNatClampNeg)))) ∧ (¬ (¬ p4 < 0 ∧ ¬ p5 < 0 ∧ ¬ (σ 115 p3.toNatClampNeg) < p4 ∧ ¬ (σ 115 p3.toNatClampNeg) - p4 < p5) → P (some (.int (-1000000013))) σ)) ∧ (¬ (¬ p2 < 0 ∧ ¬ p5 < 0 ∧ ¬ (σ 115 p1.toNatClampNeg) < p2 ∧ ¬ (σ 115 p1.toNatClampNeg) - p2 < p5) → P (some (.int (-1000000013))) σ)))))) ∧ (¬ (p3 = 0 ∨ p3 = 1) → P (some (.int (-1000000001))) σ)) ∧ (¬ (p1 = 0 ∨ p1 = 1) → P (some (.int (-1000000001))) σ)) :
  TT g (vt_R 1) 0 0 D_X11_copy none 0 [some (.ref (g.2.1 0)), some (.int p1), some (.int p2), some (.int p3), some (.int p4), some (.int p5)] [] σ P := by
  refine q_iload_n dX11_copy_0 rfl ?_
  refine q_cSb (C := p1 = 0 ∨ p1 = 1) (d' := 0) [.int p1] [] dX11_copy_1 ok_X9_isSheet mk_RX11_74 rfl (Nat.le_of_ble_eq_true rfl) (by first | decide | omega) (fun Φ h9 => c_X9_isSheet (σ := σ) Φ h9) (fun c1 => ?_) (fun c1 => ?_)
  · have h := h.1 c1
    refine q_if_eq (tgt := 14) dX11_copy_4 (by decide) (fun c => absurd c (by decide)) (fun _ => ?_)
    refine q_iload_n dX11_copy_7 rfl ?_
    refine q_cSb (C := p3 = 0 ∨ p3 = 1) (d' := 0) [.int p3] [] dX11_copy_8 ok_X9_isSheet mk_RX11_74 rfl (Nat.le_of_ble_eq_true rfl) (by first | decide | omega) (fun Φ h9 => c_X9_isSheet (σ := σ) Φ h9) (fun c2 => ?_) (fun c2 => ?_)
    · have h := h.1 c2
      refine q_if_ne (tgt := 17) dX11_copy_11 (by decide) (fun _ => ?_) (fun c => absurd c (by decide))
      refine q_aload_n dX11_copy_17 rfl ?_
      refine q_getR dX11_copy_18 fF_RX11_29 fl_0_4 ?_
      refine q_iload_n dX11_copy_21 rfl ?_
      obtain ⟨hp3, h⟩ := h
      refine q_cVb (C := σ 115 p1.toNatClampNeg = (-1)) (d' := 0) [.int p1] [] dX11_copy_22 ok_X9_isMissing mk_RX11_77 rc_111 rfl (Nat.le_of_ble_eq_true rfl) (by first | decide | omega) (fun Φ h9 => c_X9_isMissing (σ := σ) hp3 Φ h9) (fun c4 => ?_) (fun c4 => ?_)
      · have h := h.1 c4
        refine q_if_ne (tgt := 39) dX11_copy_25 (by decide) (fun _ => ?_) (fun c => absurd c (by decide))
        refine q_ldc dX11_copy_39 ct_RX11_80 ?_
        exact q_iret .int rfl rfl dX11_copy_41 h
      · have h := h.2 c4
        refine q_if_ne (tgt := 39) dX11_copy_25 (by decide) (fun c => absurd rfl c) (fun _ => ?_)
        refine q_aload_n dX11_copy_28 rfl ?_
        refine q_getR dX11_copy_29 fF_RX11_29 fl_0_4 ?_
        refine q_iload_n dX11_copy_32 rfl ?_
        obtain ⟨hp5, h⟩ := h
        refine q_cVb (C := σ 115 p3.toNatClampNeg = (-1)) (d' := 0) [.int p3] [] dX11_copy_33 ok_X9_isMissing mk_RX11_77 rc_111 rfl (Nat.le_of_ble_eq_true rfl) (by first | decide | omega) (fun Φ h9 => c_X9_isMissing (σ := σ) hp5 Φ h9) (fun c6 => ?_) (fun c6 => ?_)
        · have h := h.1 c6
          refine q_if_eq (tgt := 42) dX11_copy_36 (by decide) (fun c => absurd c (by decide)) (fun _ => ?_)
          refine q_ldc dX11_copy_39 ct_RX11_80 ?_
          exact q_iret .int rfl rfl dX11_copy_41 h
        · have h := h.2 c6
          refine q_if_eq (tgt := 42) dX11_copy_36 (by decide) (fun _ => ?_) (fun c => absurd (by decide) c)
          refine q_aload_n dX11_copy_42 rfl ?_
          refine q_getR dX11_copy_43 fF_RX11_29 fl_0_4 ?_
          refine q_iload_n dX11_copy_46 rfl ?_
          refine q_iload_n dX11_copy_47 rfl ?_
          refine q_iload dX11_copy_48 rfl ?_
          refine q_cVb (C := ¬ p2 < 0 ∧ ¬ p5 < 0 ∧ ¬ (σ 115 p1.toNatClampNeg) < p2 ∧ ¬ (σ 115 p1.toNatClampNeg) - p2 < p5) (d' := 0) [.int p1, .int p2, .int p5] [] dX11_copy_50 ok_X9_reaches mk_RX11_297 rc_111 rfl (Nat.le_of_ble_eq_true rfl) (by first | decide | omega) (fun Φ h9 => c_X9_reaches (σ := σ) hp3 Φ h9) (fun c7 => ?_) (fun c7 => ?_)
          · have h := h.1 c7
            refine q_if_eq (tgt := 71) dX11_copy_53 (by decide) (fun c => absurd c (by decide)) (fun _ => ?_)
            refine q_aload_n dX11_copy_56 rfl ?_
            refine q_getR dX11_copy_57 fF_RX11_29 fl_0_4 ?_
            refine q_iload_n dX11_copy_60 rfl ?_
            refine q_iload dX11_copy_61 rfl ?_
            refine q_iload dX11_copy_63 rfl ?_
            refine q_cVb (C := ¬ p4 < 0 ∧ ¬ p5 < 0 ∧ ¬ (σ 115 p3.toNatClampNeg) < p4 ∧ ¬ (σ 115 p3.toNatClampNeg) - p4 < p5) (d' := 0) [.int p3, .int p4, .int p5] [] dX11_copy_65 ok_X9_reaches mk_RX11_297 rc_111 rfl (Nat.le_of_ble_eq_true rfl) (by first | decide | omega) (fun Φ h9 => c_X9_reaches (σ := σ) hp5 Φ h9) (fun c8 => ?_) (fun c8 => ?_)
            · have h := h.1 c8
              refine q_if_ne (tgt := 75) dX11_copy_68 (by decide) (fun _ => ?_) (fun c => absurd c (by decide))
              refine q_aload_n dX11_copy_75 rfl ?_
              refine q_getR dX11_copy_76 fF_RX11_29 fl_0_4 ?_
              refine q_getR dX11_copy_79 fF_RX11_90 fl_111_0 ?_
              refine q_iload_n dX11_copy_82 rfl ?_
              refine q_aald dX11_copy_83 ar2_112 (by decide) hp3 ?_
              refine q_iload_n dX11_copy_84 rfl ?_
              refine q_aload_n dX11_copy_85 rfl ?_
              refine q_getR dX11_copy_86 fF_RX11_29 fl_0_4 ?_
              refine q_getR dX11_copy_89 fF_RX11_90 fl_111_0 ?_
              refine q_iload_n dX11_copy_92 rfl ?_
              refine q_aald dX11_copy_93 ar2_112 (by decide) hp5 ?_
              refine q_iload dX11_copy_94 rfl ?_
              refine q_iload dX11_copy_96 rfl ?_
              obtain ⟨hy9, h⟩ := h
              refine q_copyX (F := va_cpy (σ (113 + p1.toNatClampNeg)) (σ (113 + p3.toNatClampNeg)) p2.toNatClampNeg p4.toNatClampNeg p5.toNatClampNeg) dX11_copy_98 mk_RX11_301 nat_copy sta_copy ini_sys (rw_112 hp3) (rw_112 hp5) (by decide) hy9.1 hy9.2.1 hy9.2.2.1 hy9.2.2.2.1 hy9.2.2.2.2.1 (fun _ => hy9.2.2.2.2.2) (by decide) rfl ?_
              refine q_iload dX11_copy_101 rfl ?_
              exact q_iret .int rfl rfl dX11_copy_103 h
            · have h := h.2 c8
              refine q_if_ne (tgt := 75) dX11_copy_68 (by decide) (fun c => absurd rfl c) (fun _ => ?_)
              refine q_ldcw dX11_copy_71 ct_RX11_300 ?_
              exact q_iret .int rfl rfl dX11_copy_74 h
          · have h := h.2 c7
            refine q_if_eq (tgt := 71) dX11_copy_53 (by decide) (fun _ => ?_) (fun c => absurd (by decide) c)
            refine q_ldcw dX11_copy_71 ct_RX11_300 ?_
            exact q_iret .int rfl rfl dX11_copy_74 h
    · have h := h.2 c2
      refine q_if_ne (tgt := 17) dX11_copy_11 (by decide) (fun c => absurd rfl c) (fun _ => ?_)
      refine q_ldc dX11_copy_14 ct_RX11_70 ?_
      exact q_iret .int rfl rfl dX11_copy_16 h
  · have h := h.2 c1
    refine q_if_eq (tgt := 14) dX11_copy_4 (by decide) (fun _ => ?_) (fun c => absurd (by decide) c)
    refine q_ldc dX11_copy_14 ct_RX11_70 ?_
    exact q_iret .int rfl rfl dX11_copy_16 h

theorem s_X11_count_0 (g : vt_GT) (σ : vt_Sg) (P : Option Value → vt_Sg → Prop) (p1 : Int32)
  (h : (p1 = 0 → P (some (.int (σ 4 2))) σ) ∧ (¬ p1 = 0 → (p1 = 1 → P (some (.int (σ 7 7))) σ) ∧ (¬ p1 = 1 → (p1 = 2 → vt_Mi g 3 D_X11_countIn [.ref (g.2.1 0)] σ (fun r6 σ5 => P (some (.int r6)) σ5)) ∧ (¬ p1 = 2 → (p1 = 3 → P (some (.int (σ 19 5))) σ) ∧ (¬ p1 = 3 → (p1 = 4 → vt_Mi g 0 D_X5_countWithdrawn [.ref (g.2.1 19)] σ (fun r4 σ3 => P (some (.int r4)) σ3)) ∧ (¬ p1 = 4 → (p1 = 5 → vt_Mi g 0 D_X4_countHeld [.ref (g.2.1 25)] σ (fun r2 σ1 => P (some (.int r2)) σ1)) ∧ (¬ p1 = 5 → (p1 = 6 → P (some (.int (σ 15 3))) σ) ∧ (¬ p1 = 6 → (p1 = 7 → P (some (.int (σ 0 10))) σ) ∧ (¬ p1 = 7 → (p1 = 8 → P (some (.int (σ 107 0))) σ) ∧ (¬ p1 = 8 → (p1 = 9 → P (some (.int (σ 1 9))) σ) ∧ (¬ p1 = 9 → P (some (.int (-1000000001))) σ))))))))))) :
  TT g (vt_R 4) 0 0 D_X11_count none 0 [some (.ref (g.2.1 0)), some (.int p1)] [] σ P := by
  refine q_iload_n dX11_count_0 rfl ?_
  by_cases n1_0 : p1 = 0
  · have h := h.1 n1_0
    refine q_tabE (kk := 0) n1_0 (tgt := 56) (off := 55) dX11_count_1 (by decide) (by decide) rfl (by decide) ?_
    refine q_aload_n dX11_count_56 rfl ?_
    refine q_getR dX11_count_57 fF_RX11_10 fl_0_0 ?_
    refine q_getR dX11_count_60 fF_RX11_97 fl_1_2 ?_
    refine q_getX (x := (σ 4 2)) dX11_count_63 fF_RX11_101 fl_4_2 rfl ?_
    exact q_iret .int rfl rfl dX11_count_66 h
  · have h := h.2 n1_0
    by_cases n1_1 : p1 = 1
    · have h := h.1 n1_1
      refine q_tabE (kk := 1) n1_1 (tgt := 67) (off := 66) dX11_count_1 (by decide) (by decide) rfl (by decide) ?_
      refine q_aload_n dX11_count_67 rfl ?_
      refine q_getR dX11_count_68 fF_RX11_10 fl_0_0 ?_
      refine q_getR dX11_count_71 fF_RX11_122 fl_1_3 ?_
      refine q_getX (x := (σ 7 7)) dX11_count_74 fF_RX11_126 fl_7_7 rfl ?_
      exact q_iret .int rfl rfl dX11_count_77 h
    · have h := h.2 n1_1
      by_cases n1_2 : p1 = 2
      · have h := h.1 n1_2
        refine q_tabE (kk := 2) n1_2 (tgt := 78) (off := 77) dX11_count_1 (by decide) (by decide) rfl (by decide) ?_
        refine q_aload_n dX11_count_78 rfl ?_
        refine q_cV (d' := 3) [] [] dX11_count_79 ok_X11_countIn mk_RX11_307 rc_0 rfl (Nat.le_of_ble_eq_true rfl) (by first | decide | omega) h (fun v σ5 h => ?_)
        obtain ⟨r6, rfl, h⟩ := h
        exact q_iret .int rfl rfl dX11_count_82 h
      · have h := h.2 n1_2
        by_cases n1_3 : p1 = 3
        · have h := h.1 n1_3
          refine q_tabE (kk := 3) n1_3 (tgt := 83) (off := 82) dX11_count_1 (by decide) (by decide) rfl (by decide) ?_
          refine q_aload_n dX11_count_83 rfl ?_
          refine q_getR dX11_count_84 fF_RX11_10 fl_0_0 ?_
          refine q_getR dX11_count_87 fF_RX11_190 fl_1_5 ?_
          refine q_getX (x := (σ 19 5)) dX11_count_90 fF_RX11_194 fl_19_5 rfl ?_
          exact q_iret .int rfl rfl dX11_count_93 h
        · have h := h.2 n1_3
          by_cases n1_4 : p1 = 4
          · have h := h.1 n1_4
            refine q_tabE (kk := 4) n1_4 (tgt := 94) (off := 93) dX11_count_1 (by decide) (by decide) rfl (by decide) ?_
            refine q_aload_n dX11_count_94 rfl ?_
            refine q_getR dX11_count_95 fF_RX11_10 fl_0_0 ?_
            refine q_getR dX11_count_98 fF_RX11_190 fl_1_5 ?_
            refine q_cV (d' := 0) [] [] dX11_count_101 ok_X5_countWithdrawn mk_RX11_310 rc_19 rfl (Nat.le_of_ble_eq_true rfl) (by first | decide | omega) h (fun v σ3 h => ?_)
            obtain ⟨r4, rfl, h⟩ := h
            exact q_iret .int rfl rfl dX11_count_104 h
          · have h := h.2 n1_4
            by_cases n1_5 : p1 = 5
            · have h := h.1 n1_5
              refine q_tabE (kk := 5) n1_5 (tgt := 105) (off := 104) dX11_count_1 (by decide) (by decide) rfl (by decide) ?_
              refine q_aload_n dX11_count_105 rfl ?_
              refine q_getR dX11_count_106 fF_RX11_10 fl_0_0 ?_
              refine q_getR dX11_count_109 fF_RX11_232 fl_1_6 ?_
              refine q_cV (d' := 0) [] [] dX11_count_112 ok_X4_countHeld mk_RX11_313 rc_25 rfl (Nat.le_of_ble_eq_true rfl) (by first | decide | omega) h (fun v σ1 h => ?_)
              obtain ⟨r2, rfl, h⟩ := h
              exact q_iret .int rfl rfl dX11_count_115 h
            · have h := h.2 n1_5
              by_cases n1_6 : p1 = 6
              · have h := h.1 n1_6
                refine q_tabE (kk := 6) n1_6 (tgt := 116) (off := 115) dX11_count_1 (by decide) (by decide) rfl (by decide) ?_
                refine q_aload_n dX11_count_116 rfl ?_
                refine q_getR dX11_count_117 fF_RX11_10 fl_0_0 ?_
                refine q_getR dX11_count_120 fF_RX11_151 fl_1_4 ?_
                refine q_getX (x := (σ 15 3)) dX11_count_123 fF_RX11_155 fl_15_3 rfl ?_
                exact q_iret .int rfl rfl dX11_count_126 h
              · have h := h.2 n1_6
                by_cases n1_7 : p1 = 7
                · have h := h.1 n1_7
                  refine q_tabE (kk := 7) n1_7 (tgt := 127) (off := 126) dX11_count_1 (by decide) (by decide) rfl (by decide) ?_
                  refine q_aload_n dX11_count_127 rfl ?_
                  refine q_getX (x := (σ 0 10)) dX11_count_128 fF_RX11_281 fl_0_10 rfl ?_
                  exact q_iret .int rfl rfl dX11_count_131 h
                · have h := h.2 n1_7
                  by_cases n1_8 : p1 = 8
                  · have h := h.1 n1_8
                    refine q_tabE (kk := 8) n1_8 (tgt := 132) (off := 131) dX11_count_1 (by decide) (by decide) rfl (by decide) ?_
                    refine q_aload_n dX11_count_132 rfl ?_
                    refine q_getR dX11_count_133 fF_RX11_22 fl_0_3 ?_
                    refine q_getX (x := (σ 107 0)) dX11_count_136 fF_RX11_222 fl_107_0 rfl ?_
                    exact q_iret .int rfl rfl dX11_count_139 h
                  · have h := h.2 n1_8
                    by_cases n1_9 : p1 = 9
                    · have h := h.1 n1_9
                      refine q_tabE (kk := 9) n1_9 (tgt := 140) (off := 139) dX11_count_1 (by decide) (by decide) rfl (by decide) ?_
                      refine q_aload_n dX11_count_140 rfl ?_
                      refine q_getR dX11_count_141 fF_RX11_10 fl_0_0 ?_
                      refine q_getX (x := (σ 1 9)) dX11_count_144 fF_RX11_137 fl_1_9 rfl ?_
                      exact q_iret .int rfl rfl dX11_count_147 h
                    · have h := h.2 n1_9
                      refine q_tabOut (tgt := 148) dX11_count_1 (by have z0 := lv_neT (a := 0) n1_0 (by decide); have z1 := lv_neT (a := 1) n1_1 (by decide); have z2 := lv_neT (a := 2) n1_2 (by decide); have z3 := lv_neT (a := 3) n1_3 (by decide); have z4 := lv_neT (a := 4) n1_4 (by decide); have z5 := lv_neT (a := 5) n1_5 (by decide); have z6 := lv_neT (a := 6) n1_6 (by decide); have z7 := lv_neT (a := 7) n1_7 (by decide); have z8 := lv_neT (a := 8) n1_8 (by decide); have z9 := lv_neT (a := 9) n1_9 (by decide); omega) (by decide) ?_
                      refine q_ldc dX11_count_148 ct_RX11_70 ?_
                      exact q_iret .int rfl rfl dX11_count_150 h

theorem s_X11_countIn_0 (g : vt_GT) (σ : vt_Sg) (P : Option Value → vt_Sg → Prop) 
  (h : vt_Mv g 2 D_X2_look [.ref (g.2.1 116), .int (σ 1 9)] σ (fun σ1 => P (some (.int (σ1 116 2))) σ1)) :
  TT g (vt_R 3) 0 0 D_X11_countIn none 0 [some (.ref (g.2.1 0))] [] σ P := by
  refine q_aload_n dX11_countIn_0 rfl ?_
  refine q_getR dX11_countIn_1 fF_RX11_38 fl_0_5 ?_
  refine q_aload_n dX11_countIn_4 rfl ?_
  refine q_getR dX11_countIn_5 fF_RX11_10 fl_0_0 ?_
  refine q_getX (x := (σ 1 9)) dX11_countIn_8 fF_RX11_137 fl_1_9 rfl ?_
  refine q_cV (d' := 2) [.int (σ 1 9)] [] dX11_countIn_11 ok_X2_look mk_RX11_140 rc_116 rfl (Nat.le_of_ble_eq_true rfl) (by first | decide | omega) h (fun v σ1 h => ?_)
  obtain ⟨rfl, h⟩ := h
  refine q_aload_n dX11_countIn_14 rfl ?_
  refine q_getR dX11_countIn_15 fF_RX11_38 fl_0_5 ?_
  refine q_getX (x := (σ1 116 2)) dX11_countIn_18 fF_RX11_316 fl_116_2 rfl ?_
  exact q_iret .int rfl rfl dX11_countIn_21 h

theorem s_X11_rentOf_0 (g : vt_GT) (σ : vt_Sg) (P : Option Value → vt_Sg → Prop) (p1 : Int32) (p2 : Int32)
  (h : vp_in p1 12 ∧ (((σ 117 p1.toNatClampNeg) = (-1000000005) → P (some (.int 0)) σ) ∧ (¬ (σ 117 p1.toNatClampNeg) = (-1000000005) → (¬ (σ 26 p1.toNatClampNeg) = 0 → vt_Mi g 4 D_X11_rentPart [.ref (g.2.1 0), .int p1, .int 0, .int p2] σ (fun r5 σ4 => vt_Mi g 4 D_X11_rentPart [.ref (g.2.1 0), .int p1, .int 1, .int p2] σ4 (fun r7 σ6 => P (some (.int (r5 + r7))) σ6))) ∧ ((σ 26 p1.toNatClampNeg) = 0 → P (some (.int 0)) σ)))) :
  TT g (vt_R 5) 0 0 D_X11_rentOf none 0 [some (.ref (g.2.1 0)), some (.int p1), some (.int p2)] [] σ P := by
  refine q_aload_n dX11_rentOf_0 rfl ?_
  refine q_getR dX11_rentOf_1 fF_RX11_38 fl_0_5 ?_
  refine q_getR dX11_rentOf_4 fF_RX11_144 fl_116_3 ?_
  refine q_iload_n dX11_rentOf_7 rfl ?_
  obtain ⟨hi1, h⟩ := h
  refine q_ialdX (v := (σ 117 p1.toNatClampNeg)) dX11_rentOf_8 ar_117 hi1 rfl ?_
  refine q_ldc dX11_rentOf_9 ct_RX11_136 ?_
  refine q_icmp_eq (tgt := 29) dX11_rentOf_11 (by decide) (fun c2 => ?_) (fun c2 => ?_)
  · have h := h.1 c2
    refine q_iconst (v := 0) dX11_rentOf_29 (by decide) ?_
    exact q_iret .int rfl rfl dX11_rentOf_30 h
  · have h := h.2 c2
    refine q_aload_n dX11_rentOf_14 rfl ?_
    refine q_getR dX11_rentOf_15 fF_RX11_10 fl_0_0 ?_
    refine q_getR dX11_rentOf_18 fF_RX11_232 fl_1_6 ?_
    refine q_getR dX11_rentOf_21 fF_RX11_319 fl_25_0 ?_
    refine q_iload_n dX11_rentOf_24 rfl ?_
    refine q_zaldX (v := (σ 26 p1.toNatClampNeg)) dX11_rentOf_25 ar_26 hi1 rfl ?_
    refine q_if_ne (tgt := 31) dX11_rentOf_26 (by decide) (fun c3 => ?_) (fun c3 => ?_)
    · have h := h.1 c3
      refine q_aload_n dX11_rentOf_31 rfl ?_
      refine q_iload_n dX11_rentOf_32 rfl ?_
      refine q_iconst (v := 0) dX11_rentOf_33 (by decide) ?_
      refine q_iload_n dX11_rentOf_34 rfl ?_
      refine q_cV (d' := 4) [.int p1, .int 0, .int p2] [] dX11_rentOf_35 ok_X11_rentPart mk_RX11_323 rc_0 rfl (Nat.le_of_ble_eq_true rfl) (by first | decide | omega) h (fun v σ4 h => ?_)
      obtain ⟨r5, rfl, h⟩ := h
      refine q_aload_n dX11_rentOf_38 rfl ?_
      refine q_iload_n dX11_rentOf_39 rfl ?_
      refine q_iconst (v := 1) dX11_rentOf_40 (by decide) ?_
      refine q_iload_n dX11_rentOf_41 rfl ?_
      refine q_cV (d' := 4) [.int p1, .int 1, .int p2] [.int r5] dX11_rentOf_42 ok_X11_rentPart mk_RX11_323 rc_0 rfl (Nat.le_of_ble_eq_true rfl) (by first | decide | omega) h (fun v σ6 h => ?_)
      obtain ⟨r7, rfl, h⟩ := h
      refine q_iadd dX11_rentOf_45 ?_
      exact q_iret .int rfl rfl dX11_rentOf_46 h
    · have h := h.2 c3
      refine q_iconst (v := 0) dX11_rentOf_29 (by decide) ?_
      exact q_iret .int rfl rfl dX11_rentOf_30 h

theorem s_X11_rentPart_0 (g : vt_GT) (σ : vt_Sg) (P : Option Value → vt_Sg → Prop) (p1 : Int32) (p2 : Int32) (p3 : Int32)
  (h : vt_Mi g 3 D_X1_work [.ref (g.2.1 121), .ref (g.2.1 116), .int p1, .int p2, .int p3] σ (fun r2 σ1 => P (some (.int (if 0 < (if r2 < 99999 then r2 else 99999) then (if r2 < 99999 then r2 else 99999) else 0))) σ1)) :
  TT g (vt_R 4) 0 0 D_X11_rentPart none 0 [some (.ref (g.2.1 0)), some (.int p1), some (.int p2), some (.int p3), none] [] σ P := by
  refine q_aload_n dX11_rentPart_0 rfl ?_
  refine q_getR dX11_rentPart_1 fF_RX11_45 fl_0_6 ?_
  refine q_aload_n dX11_rentPart_4 rfl ?_
  refine q_getR dX11_rentPart_5 fF_RX11_38 fl_0_5 ?_
  refine q_iload_n dX11_rentPart_8 rfl ?_
  refine q_iload_n dX11_rentPart_9 rfl ?_
  refine q_iload_n dX11_rentPart_10 rfl ?_
  refine q_cV (d' := 3) [.ref (g.2.1 116), .int p1, .int p2, .int p3] [] dX11_rentPart_11 ok_X1_work mk_RX11_326 rc_121 rfl (Nat.le_of_ble_eq_true rfl) (by first | decide | omega) h (fun v σ1 h => ?_)
  obtain ⟨r2, rfl, h⟩ := h
  refine q_istore (L' := [some (.ref (g.2.1 0)), some (.int p1), some (.int p2), some (.int p3), some (.int r2)]) dX11_rentPart_14 (by decide) rfl rfl ?_
  refine q_iconst (v := 0) dX11_rentPart_16 (by decide) ?_
  refine q_ldc dX11_rentPart_17 ct_RX11_121 ?_
  refine q_iload dX11_rentPart_19 rfl ?_
  refine q_min dX11_rentPart_21 mk_RX11_84 sta_min ini_math cod_min (Nat.le_of_ble_eq_true rfl) (by first | decide | omega) ?_
  refine q_max dX11_rentPart_24 mk_RX11_330 sta_max ini_math cod_max (Nat.le_of_ble_eq_true rfl) (by first | decide | omega) ?_
  exact q_iret .int rfl rfl dX11_rentPart_27 h

theorem s_X11_letFall_0 (g : vt_GT) (σ : vt_Sg) (P : Option Value → vt_Sg → Prop) 
  (h : TT g (vt_R 5) 0 0 D_X11_letFall none 4 [some (.ref (g.2.1 0)), some (.int 0), some (.int 0), none] [] σ P) :
  TT g (vt_R 5) 0 0 D_X11_letFall none 0 [some (.ref (g.2.1 0)), none, none, none] [] σ P := by
  refine q_iconst (v := 0) dX11_letFall_0 (by decide) ?_
  refine q_istore_n (L' := [some (.ref (g.2.1 0)), some (.int 0), none, none]) dX11_letFall_1 (by decide) rfl rfl ?_
  refine q_iconst (v := 0) dX11_letFall_2 (by decide) ?_
  refine q_istore_n (L' := [some (.ref (g.2.1 0)), some (.int 0), some (.int 0), none]) dX11_letFall_3 (by decide) rfl rfl ?_
  exact h

theorem s_X11_letFall_4 (g : vt_GT) (σ : vt_Sg) (P : Option Value → vt_Sg → Prop) (x1 : Int32) (x2 : Int32)
  (h : (12 ≤ x2 → P (some (.int x1)) σ) ∧ (¬ 12 ≤ x2 → vt_Mi g 4 D_X11_firstToLeave [.ref (g.2.1 0)] σ (fun r3 σ2 => (¬ r3 = (-1000000005) → vt_Mv g 2 D_X2_sendOut [.ref (g.2.1 116), .int r3] σ2 (fun σ5 => vp_in x1 12 ∧ (TT g (vt_R 5) 0 0 D_X11_letFall none 4 [some (.ref (g.2.1 0)), some (.int (x1 + 1)), some (.int (x2 + 1)), none] [] (su σ5 166 (upd (σ5 166) x1.toNatClampNeg r3)) P))) ∧ (r3 = (-1000000005) → P (some (.int x1)) σ2)))) :
  TT g (vt_R 5) 0 0 D_X11_letFall none 4 [some (.ref (g.2.1 0)), some (.int x1), some (.int x2), none] [] σ P := by
  refine q_iload_n dX11_letFall_4 rfl ?_
  refine q_bipush (v := 12) dX11_letFall_5 (by decide) ?_
  refine q_icmp_ge (tgt := 48) dX11_letFall_7 (by decide) (fun c1 => ?_) (fun c1 => ?_)
  · have h := h.1 c1
    refine q_iload_n dX11_letFall_48 rfl ?_
    exact q_iret .int rfl rfl dX11_letFall_49 h
  · have h := h.2 c1
    refine q_aload_n dX11_letFall_10 rfl ?_
    refine q_cV (d' := 4) [] [] dX11_letFall_11 ok_X11_firstToLeave mk_RX11_333 rc_0 rfl (Nat.le_of_ble_eq_true rfl) (by first | decide | omega) h (fun v σ2 h => ?_)
    obtain ⟨r3, rfl, h⟩ := h
    refine q_istore_n (L' := [some (.ref (g.2.1 0)), some (.int x1), some (.int x2), some (.int r3)]) dX11_letFall_14 (by decide) rfl rfl ?_
    refine q_iload_n dX11_letFall_15 rfl ?_
    refine q_ldc dX11_letFall_16 ct_RX11_136 ?_
    refine q_icmp_ne (tgt := 24) dX11_letFall_18 (by decide) (fun c4 => ?_) (fun c4 => ?_)
    · have h := h.1 c4
      refine q_aload_n dX11_letFall_24 rfl ?_
      refine q_getR dX11_letFall_25 fF_RX11_38 fl_0_5 ?_
      refine q_iload_n dX11_letFall_28 rfl ?_
      refine q_cV (d' := 2) [.int r3] [] dX11_letFall_29 ok_X2_sendOut mk_RX11_261 rc_116 rfl (Nat.le_of_ble_eq_true rfl) (by first | decide | omega) h (fun v σ5 h => ?_)
      obtain ⟨rfl, h⟩ := h
      refine q_aload_n dX11_letFall_32 rfl ?_
      refine q_getR dX11_letFall_33 fF_RX11_56 fl_0_8 ?_
      refine q_iload_n dX11_letFall_36 rfl ?_
      refine q_iload_n dX11_letFall_37 rfl ?_
      obtain ⟨hi6, h⟩ := h
      refine q_iastX (F := upd (σ5 166) x1.toNatClampNeg r3) dX11_letFall_38 ar_166 hi6 rfl ?_
      refine q_iinc (L' := [some (.ref (g.2.1 0)), some (.int (x1 + 1)), some (.int x2), some (.int r3)]) dX11_letFall_39 rfl (by decide) rfl rfl ?_
      refine q_iinc (L' := [some (.ref (g.2.1 0)), some (.int (x1 + 1)), some (.int (x2 + 1)), some (.int r3)]) dX11_letFall_42 rfl (by decide) rfl rfl ?_
      refine q_goto (tgt := 4) dX11_letFall_45 (by decide) ?_
      exact q_wk (by simp [vt_le]) h
    · have h := h.2 c4
      refine q_goto (tgt := 48) dX11_letFall_21 (by decide) ?_
      refine q_iload_n dX11_letFall_48 rfl ?_
      exact q_iret .int rfl rfl dX11_letFall_49 h

theorem s_X11_firstToLeave_0 (g : vt_GT) (σ : vt_Sg) (P : Option Value → vt_Sg → Prop) 
  (h : TT g (vt_R 4) 0 0 D_X11_firstToLeave none 2 [some (.ref (g.2.1 0)), some (.int 0), none] [] σ P) :
  TT g (vt_R 4) 0 0 D_X11_firstToLeave none 0 [some (.ref (g.2.1 0)), none, none] [] σ P := by
  refine q_iconst (v := 0) dX11_firstToLeave_0 (by decide) ?_
  refine q_istore_n (L' := [some (.ref (g.2.1 0)), some (.int 0), none]) dX11_firstToLeave_1 (by decide) rfl rfl ?_
  exact h

theorem s_X11_firstToLeave_2 (g : vt_GT) (σ : vt_Sg) (P : Option Value → vt_Sg → Prop) (x1 : Int32)
  (h : ((σ 7 7) ≤ x1 → P (some (.int (-1000000005))) σ) ∧ (¬ (σ 7 7) ≤ x1 → vp_in x1 12 ∧ (((σ 117 x1.toNatClampNeg) = (-1000000005) → TT g (vt_R 4) 0 0 D_X11_firstToLeave none 2 [some (.ref (g.2.1 0)), some (.int (x1 + 1)), none] [] σ P) ∧ (¬ (σ 117 x1.toNatClampNeg) = (-1000000005) → ((σ 26 x1.toNatClampNeg) = 0 → TT g (vt_R 4) 0 0 D_X11_firstToLeave none 2 [some (.ref (g.2.1 0)), some (.int (x1 + 1)), none] [] σ P) ∧ (¬ (σ 26 x1.toNatClampNeg) = 0 → vt_Mi g 3 D_X1_work [.ref (g.2.1 121), .ref (g.2.1 116), .int x1, .int 2, .int (σ 1 9)] σ (fun r6 σ5 => (r6 = 0 → TT g (vt_R 4) 0 0 D_X11_firstToLeave none 2 [some (.ref (g.2.1 0)), some (.int (x1 + 1)), none] [] σ5 P) ∧ (¬ r6 = 0 → P (some (.int x1)) σ5))))))) :
  TT g (vt_R 4) 0 0 D_X11_firstToLeave none 2 [some (.ref (g.2.1 0)), some (.int x1), none] [] σ P := by
  refine q_iload_n dX11_firstToLeave_2 rfl ?_
  refine q_aload_n dX11_firstToLeave_3 rfl ?_
  refine q_getR dX11_firstToLeave_4 fF_RX11_10 fl_0_0 ?_
  refine q_getR dX11_firstToLeave_7 fF_RX11_122 fl_1_3 ?_
  refine q_getX (x := (σ 7 7)) dX11_firstToLeave_10 fF_RX11_126 fl_7_7 rfl ?_
  refine q_icmp_ge (tgt := 86) dX11_firstToLeave_13 (by decide) (fun c1 => ?_) (fun c1 => ?_)
  · have h := h.1 c1
    refine q_ldc dX11_firstToLeave_86 ct_RX11_136 ?_
    exact q_iret .int rfl rfl dX11_firstToLeave_88 h
  · have h := h.2 c1
    refine q_aload_n dX11_firstToLeave_16 rfl ?_
    refine q_getR dX11_firstToLeave_17 fF_RX11_38 fl_0_5 ?_
    refine q_getR dX11_firstToLeave_20 fF_RX11_144 fl_116_3 ?_
    refine q_iload_n dX11_firstToLeave_23 rfl ?_
    obtain ⟨hi2, h⟩ := h
    refine q_ialdX (v := (σ 117 x1.toNatClampNeg)) dX11_firstToLeave_24 ar_117 hi2 rfl ?_
    refine q_ldc dX11_firstToLeave_25 ct_RX11_136 ?_
    refine q_icmp_eq (tgt := 49) dX11_firstToLeave_27 (by decide) (fun c3 => ?_) (fun c3 => ?_)
    · have h := h.1 c3
      refine q_iconst (v := 0) dX11_firstToLeave_49 (by decide) ?_
      refine q_istore_n (L' := [some (.ref (g.2.1 0)), some (.int x1), some (.int 0)]) dX11_firstToLeave_50 (by decide) rfl rfl ?_
      refine q_iload_n dX11_firstToLeave_51 rfl ?_
      refine q_if_eq (tgt := 80) dX11_firstToLeave_52 (by decide) (fun _ => ?_) (fun c => absurd (by decide) c)
      refine q_iinc (L' := [some (.ref (g.2.1 0)), some (.int (x1 + 1)), some (.int 0)]) dX11_firstToLeave_80 rfl (by decide) rfl rfl ?_
      refine q_goto (tgt := 2) dX11_firstToLeave_83 (by decide) ?_
      exact q_wk (by simp [vt_le]) h
    · have h := h.2 c3
      refine q_aload_n dX11_firstToLeave_30 rfl ?_
      refine q_getR dX11_firstToLeave_31 fF_RX11_10 fl_0_0 ?_
      refine q_getR dX11_firstToLeave_34 fF_RX11_232 fl_1_6 ?_
      refine q_getR dX11_firstToLeave_37 fF_RX11_319 fl_25_0 ?_
      refine q_iload_n dX11_firstToLeave_40 rfl ?_
      refine q_zaldX (v := (σ 26 x1.toNatClampNeg)) dX11_firstToLeave_41 ar_26 hi2 rfl ?_
      refine q_if_eq (tgt := 49) dX11_firstToLeave_42 (by decide) (fun c4 => ?_) (fun c4 => ?_)
      · have h := h.1 c4
        refine q_iconst (v := 0) dX11_firstToLeave_49 (by decide) ?_
        refine q_istore_n (L' := [some (.ref (g.2.1 0)), some (.int x1), some (.int 0)]) dX11_firstToLeave_50 (by decide) rfl rfl ?_
        refine q_iload_n dX11_firstToLeave_51 rfl ?_
        refine q_if_eq (tgt := 80) dX11_firstToLeave_52 (by decide) (fun _ => ?_) (fun c => absurd (by decide) c)
        refine q_iinc (L' := [some (.ref (g.2.1 0)), some (.int (x1 + 1)), some (.int 0)]) dX11_firstToLeave_80 rfl (by decide) rfl rfl ?_
        refine q_goto (tgt := 2) dX11_firstToLeave_83 (by decide) ?_
        exact q_wk (by simp [vt_le]) h
      · have h := h.2 c4
        refine q_iconst (v := 1) dX11_firstToLeave_45 (by decide) ?_
        refine q_goto (tgt := 50) dX11_firstToLeave_46 (by decide) ?_
        refine q_istore_n (L' := [some (.ref (g.2.1 0)), some (.int x1), some (.int 1)]) dX11_firstToLeave_50 (by decide) rfl rfl ?_
        refine q_iload_n dX11_firstToLeave_51 rfl ?_
        refine q_if_eq (tgt := 80) dX11_firstToLeave_52 (by decide) (fun c => absurd c (by decide)) (fun _ => ?_)
        refine q_aload_n dX11_firstToLeave_55 rfl ?_
        refine q_getR dX11_firstToLeave_56 fF_RX11_45 fl_0_6 ?_
        refine q_aload_n dX11_firstToLeave_59 rfl ?_
        refine q_getR dX11_firstToLeave_60 fF_RX11_38 fl_0_5 ?_
        refine q_iload_n dX11_firstToLeave_63 rfl ?_
        refine q_iconst (v := 2) dX11_firstToLeave_64 (by decide) ?_
        refine q_aload_n dX11_firstToLeave_65 rfl ?_
        refine q_getR dX11_firstToLeave_66 fF_RX11_10 fl_0_0 ?_
        refine q_getX (x := (σ 1 9)) dX11_firstToLeave_69 fF_RX11_137 fl_1_9 rfl ?_
        refine q_cV (d' := 3) [.ref (g.2.1 116), .int x1, .int 2, .int (σ 1 9)] [] dX11_firstToLeave_72 ok_X1_work mk_RX11_326 rc_121 rfl (Nat.le_of_ble_eq_true rfl) (by first | decide | omega) h (fun v σ5 h => ?_)
        obtain ⟨r6, rfl, h⟩ := h
        refine q_if_eq (tgt := 80) dX11_firstToLeave_75 (by decide) (fun c7 => ?_) (fun c7 => ?_)
        · have h := h.1 c7
          refine q_iinc (L' := [some (.ref (g.2.1 0)), some (.int (x1 + 1)), some (.int 1)]) dX11_firstToLeave_80 rfl (by decide) rfl rfl ?_
          refine q_goto (tgt := 2) dX11_firstToLeave_83 (by decide) ?_
          exact q_wk (by simp [vt_le]) h
        · have h := h.2 c7
          refine q_iload_n dX11_firstToLeave_78 rfl ?_
          exact q_iret .int rfl rfl dX11_firstToLeave_79 h

theorem s_X11_seek_0 (g : vt_GT) (σ : vt_Sg) (P : Option Value → vt_Sg → Prop) (p1 : Int32)
  (h : vt_Mv g 2 D_X2_look [.ref (g.2.1 116), .int (σ 1 9)] σ (fun σ1 => vt_Mi g 41 D_X6_search [.ref (g.2.1 123), .ref (g.2.1 116), .int p1] σ1 (fun r3 σ2 => narrow .boolean (.int r3) = .int r3 ∧ P (some (.int r3)) σ2))) :
  TT g (vt_R 42) 0 0 D_X11_seek none 0 [some (.ref (g.2.1 0)), some (.int p1)] [] σ P := by
  refine q_aload_n dX11_seek_0 rfl ?_
  refine q_getR dX11_seek_1 fF_RX11_38 fl_0_5 ?_
  refine q_aload_n dX11_seek_4 rfl ?_
  refine q_getR dX11_seek_5 fF_RX11_10 fl_0_0 ?_
  refine q_getX (x := (σ 1 9)) dX11_seek_8 fF_RX11_137 fl_1_9 rfl ?_
  refine q_cV (d' := 2) [.int (σ 1 9)] [] dX11_seek_11 ok_X2_look mk_RX11_140 rc_116 rfl (Nat.le_of_ble_eq_true rfl) (by first | decide | omega) h (fun v σ1 h => ?_)
  obtain ⟨rfl, h⟩ := h
  refine q_aload_n dX11_seek_14 rfl ?_
  refine q_getR dX11_seek_15 fF_RX11_52 fl_0_7 ?_
  refine q_aload_n dX11_seek_18 rfl ?_
  refine q_getR dX11_seek_19 fF_RX11_38 fl_0_5 ?_
  refine q_iload_n dX11_seek_22 rfl ?_
  refine q_cV (d' := 41) [.ref (g.2.1 116), .int p1] [] dX11_seek_23 ok_X6_search mk_RX11_336 rc_123 rfl (Nat.le_of_ble_eq_true rfl) (by first | decide | omega) h (fun v σ2 h => ?_)
  obtain ⟨r3, rfl, h⟩ := h
  exact q_iret .boolean rfl h.1 dX11_seek_26 h.2

