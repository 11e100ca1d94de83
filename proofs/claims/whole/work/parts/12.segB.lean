theorem s_X6_search_0 (g : vt_GT) (σ : vt_Sg) (P : Option Value → vt_Sg → Prop) (p2 : Int32)
  (h : vt_Mv g 0 D_J7_fill_53178 [.ref (g.2.1 125), .int (-1000000005)] (su (su (su (su σ 123 (upd (σ 123) 8 p2)) 123 (upd (upd (σ 123) 8 p2) 7 0)) 123 (upd (upd (upd (σ 123) 8 p2) 7 0) 1 (-1))) 123 (upd (upd (upd (upd (σ 123) 8 p2) 7 0) 1 (-1)) 2 0)) (fun σ1 => TT g (vt_R 41) 0 0 D_X6_search none 31 [some (.ref (g.2.1 123)), some (.ref (g.2.1 116)), some (.int p2), some (.int 0)] [] σ1 P)) :
  TT g (vt_R 41) 0 0 D_X6_search none 0 [some (.ref (g.2.1 123)), some (.ref (g.2.1 116)), some (.int p2), none] [] σ P := by
  refine q_aload_n dX6_search_0 rfl ?_
  refine q_iload_n dX6_search_1 rfl ?_
  refine q_putX (F := upd (σ 123) 8 p2) dX6_search_2 fF_RX6_29 fP_6_8 fl_123_8 rfl ?_
  refine q_aload_n dX6_search_5 rfl ?_
  refine q_iconst (v := 0) dX6_search_6 (by decide) ?_
  refine q_putX (F := upd (upd (σ 123) 8 p2) 7 0) dX6_search_7 fF_RX6_33 fP_6_7 fl_123_7 rfl ?_
  refine q_aload_n dX6_search_10 rfl ?_
  refine q_iconst (v := (-1)) dX6_search_11 (by decide) ?_
  refine q_putX (F := upd (upd (upd (σ 123) 8 p2) 7 0) 1 (-1)) dX6_search_12 fF_RX6_36 fP_6_1 fl_123_1 rfl ?_
  refine q_aload_n dX6_search_15 rfl ?_
  refine q_iconst (v := 0) dX6_search_16 (by decide) ?_
  refine q_putX (F := upd (upd (upd (upd (σ 123) 8 p2) 7 0) 1 (-1)) 2 0) dX6_search_17 fF_RX6_39 fP_6_2 fl_123_2 rfl ?_
  refine q_aload_n dX6_search_20 rfl ?_
  refine q_getR dX6_search_21 fF_RX6_15 fl_123_3 ?_
  refine q_ldc dX6_search_24 ct_RX6_42 ?_
  refine q_cS (d' := 0) [.ref (g.2.1 125), .int (-1000000005)] [] dX6_search_26 ok_J7_fill_53178 mk_RX6_43 rfl (Nat.le_of_ble_eq_true rfl) (by first | decide | omega) h (fun v σ1 h => ?_)
  obtain ⟨rfl, h⟩ := h
  refine q_iconst (v := 0) dX6_search_29 (by decide) ?_
  refine q_istore_n (L' := [some (.ref (g.2.1 123)), some (.ref (g.2.1 116)), some (.int p2), some (.int 0)]) dX6_search_30 (by decide) rfl rfl ?_
  exact h

theorem s_X6_search_31 (g : vt_GT) (σ : vt_Sg) (P : Option Value → vt_Sg → Prop) (x2 : Int32) (x3 : Int32)
  (h : ((σ 7 7) ≤ x3 → TT g (vt_R 41) 0 0 D_X6_search none 62 [some (.ref (g.2.1 123)), some (.ref (g.2.1 116)), some (.int x2), some (.int 0)] [] σ P) ∧ (¬ (σ 7 7) ≤ x3 → vt_Mv g 2 D_X6_prepare [.ref (g.2.1 123), .ref (g.2.1 1), .int x3] σ (fun σ2 => TT g (vt_R 41) 0 0 D_X6_search none 31 [some (.ref (g.2.1 123)), some (.ref (g.2.1 116)), some (.int x2), some (.int (x3 + 1))] [] σ2 P))) :
  TT g (vt_R 41) 0 0 D_X6_search none 31 [some (.ref (g.2.1 123)), some (.ref (g.2.1 116)), some (.int x2), some (.int x3)] [] σ P := by
  refine q_iload_n dX6_search_31 rfl ?_
  refine q_aload_n dX6_search_32 rfl ?_
  refine q_getR dX6_search_33 fF_RX6_49 fl_116_0 ?_
  refine q_getR dX6_search_36 fF_RX6_55 fl_1_3 ?_
  refine q_getX (x := (σ 7 7)) dX6_search_39 fF_RX6_61 fl_7_7 rfl ?_
  refine q_icmp_ge (tgt := 60) dX6_search_42 (by decide) (fun c1 => ?_) (fun c1 => ?_)
  · have h := h.1 c1
    refine q_iconst (v := 0) dX6_search_60 (by decide) ?_
    refine q_istore_n (L' := [some (.ref (g.2.1 123)), some (.ref (g.2.1 116)), some (.int x2), some (.int 0)]) dX6_search_61 (by decide) rfl rfl ?_
    exact h
  · have h := h.2 c1
    refine q_aload_n dX6_search_45 rfl ?_
    refine q_aload_n dX6_search_46 rfl ?_
    refine q_getR dX6_search_47 fF_RX6_49 fl_116_0 ?_
    refine q_iload_n dX6_search_50 rfl ?_
    refine q_cV (d' := 2) [.ref (g.2.1 1), .int x3] [] dX6_search_51 ok_X6_prepare mk_RX6_66 rc_123 rfl (Nat.le_of_ble_eq_true rfl) (by first | decide | omega) h (fun v σ2 h => ?_)
    obtain ⟨rfl, h⟩ := h
    refine q_iinc (L' := [some (.ref (g.2.1 123)), some (.ref (g.2.1 116)), some (.int x2), some (.int (x3 + 1))]) dX6_search_54 rfl (by decide) rfl rfl ?_
    refine q_goto (tgt := 31) dX6_search_57 (by decide) ?_
    exact h

theorem s_X6_search_62 (g : vt_GT) (σ : vt_Sg) (P : Option Value → vt_Sg → Prop) (x2 : Int32) (x3 : Int32)
  (h : (12 ≤ x3 → vt_Mi g 40 D_X6_extend [.ref (g.2.1 123), .int 0, .int 0, .int 0] σ (fun r3 σ2 => narrow .boolean (.int r3) = .int r3 ∧ P (some (.int r3)) σ2)) ∧ (¬ 12 ≤ x3 → vt_Mi g 1 D_X6_fitAtFirst [.ref (g.2.1 123), .ref (g.2.1 116), .int x3] σ (fun r5 σ4 => vp_in x3 12 ∧ (TT g (vt_R 41) 0 0 D_X6_search none 62 [some (.ref (g.2.1 123)), some (.ref (g.2.1 116)), some (.int x2), some (.int (x3 + 1))] [] (su σ4 153 (upd (σ4 153) x3.toNatClampNeg r5)) P)))) :
  TT g (vt_R 41) 0 0 D_X6_search none 62 [some (.ref (g.2.1 123)), some (.ref (g.2.1 116)), some (.int x2), some (.int x3)] [] σ P := by
  refine q_iload_n dX6_search_62 rfl ?_
  refine q_bipush (v := 12) dX6_search_63 (by decide) ?_
  refine q_icmp_ge (tgt := 88) dX6_search_65 (by decide) (fun c1 => ?_) (fun c1 => ?_)
  · have h := h.1 c1
    refine q_aload_n dX6_search_88 rfl ?_
    refine q_iconst (v := 0) dX6_search_89 (by decide) ?_
    refine q_iconst (v := 0) dX6_search_90 (by decide) ?_
    refine q_iconst (v := 0) dX6_search_91 (by decide) ?_
    refine q_cV (d' := 40) [.int 0, .int 0, .int 0] [] dX6_search_92 ok_X6_extend mk_RX6_74 rc_123 rfl (Nat.le_of_ble_eq_true rfl) (by first | decide | omega) h (fun v σ2 h => ?_)
    obtain ⟨r3, rfl, h⟩ := h
    exact q_iret .boolean rfl h.1 dX6_search_95 h.2
  · have h := h.2 c1
    refine q_aload_n dX6_search_68 rfl ?_
    refine q_getR dX6_search_69 fF_RX6_26 fl_123_6 ?_
    refine q_iconst (v := 0) dX6_search_72 (by decide) ?_
    refine q_aaldX (kr := 153) dX6_search_73 ar2_152 (by decide) (vt_inl rfl) (by decide) ?_
    refine q_iload_n dX6_search_74 rfl ?_
    refine q_aload_n dX6_search_75 rfl ?_
    refine q_aload_n dX6_search_76 rfl ?_
    refine q_iload_n dX6_search_77 rfl ?_
    refine q_cV (d' := 1) [.ref (g.2.1 116), .int x3] [.int x3, .ref (g.2.1 153)] dX6_search_78 ok_X6_fitAtFirst mk_RX6_70 rc_123 rfl (Nat.le_of_ble_eq_true rfl) (by first | decide | omega) h (fun v σ4 h => ?_)
    obtain ⟨r5, rfl, h⟩ := h
    obtain ⟨hi6, h⟩ := h
    refine q_iastX (F := upd (σ4 153) x3.toNatClampNeg r5) dX6_search_81 ar_153 hi6 rfl ?_
    refine q_iinc (L' := [some (.ref (g.2.1 123)), some (.ref (g.2.1 116)), some (.int x2), some (.int (x3 + 1))]) dX6_search_82 rfl (by decide) rfl rfl ?_
    refine q_goto (tgt := 62) dX6_search_85 (by decide) ?_
    exact h

theorem s_X6_prepare_0 (g : vt_GT) (σ : vt_Sg) (P : Option Value → vt_Sg → Prop) (p2 : Int32)
  (h : TT g (vt_R 2) 0 0 D_X6_prepare none 2 [some (.ref (g.2.1 123)), some (.ref (g.2.1 1)), some (.int p2), some (.int 0), none, none] [] σ P) :
  TT g (vt_R 2) 0 0 D_X6_prepare none 0 [some (.ref (g.2.1 123)), some (.ref (g.2.1 1)), some (.int p2), none, none, none] [] σ P := by
  refine q_iconst (v := 0) dX6_prepare_0 (by decide) ?_
  refine q_istore_n (L' := [some (.ref (g.2.1 123)), some (.ref (g.2.1 1)), some (.int p2), some (.int 0), none, none]) dX6_prepare_1 (by decide) rfl rfl ?_
  exact h

theorem s_X6_prepare_2 (g : vt_GT) (σ : vt_Sg) (P : Option Value → vt_Sg → Prop) (x2 : Int32) (x3 : Int32)
  (h : (12 ≤ x3 → TT g (vt_R 2) 0 0 D_X6_prepare none 43 [some (.ref (g.2.1 123)), some (.ref (g.2.1 1)), some (.int x2), some (.int 0), none, none] [] σ P) ∧ (¬ 12 ≤ x3 → vp_in x2 12 ∧ (vp_in x3 12 ∧ (TT g (vt_R 2) 0 0 D_X6_prepare none 2 [some (.ref (g.2.1 123)), some (.ref (g.2.1 1)), some (.int x2), some (.int (x3 + 1)), none, none] [] (su σ (127 + x2.toNatClampNeg) (upd (σ (127 + x2.toNatClampNeg)) x3.toNatClampNeg (((σ 14 x2.toNatClampNeg) * (σ 2 x3.toNatClampNeg)) / 100))) P)))) :
  TT g (vt_R 2) 0 0 D_X6_prepare none 2 [some (.ref (g.2.1 123)), some (.ref (g.2.1 1)), some (.int x2), some (.int x3), none, none] [] σ P := by
  refine q_iload_n dX6_prepare_2 rfl ?_
  refine q_bipush (v := 12) dX6_prepare_3 (by decide) ?_
  refine q_icmp_ge (tgt := 41) dX6_prepare_5 (by decide) (fun c1 => ?_) (fun c1 => ?_)
  · have h := h.1 c1
    refine q_iconst (v := 0) dX6_prepare_41 (by decide) ?_
    refine q_istore_n (L' := [some (.ref (g.2.1 123)), some (.ref (g.2.1 1)), some (.int x2), some (.int 0), none, none]) dX6_prepare_42 (by decide) rfl rfl ?_
    exact h
  · have h := h.2 c1
    refine q_aload_n dX6_prepare_8 rfl ?_
    refine q_getR dX6_prepare_9 fF_RX6_20 fl_123_4 ?_
    refine q_iload_n dX6_prepare_12 rfl ?_
    obtain ⟨hi2, h⟩ := h
    refine q_aald dX6_prepare_13 ar2_126 (by decide) hi2 ?_
    refine q_iload_n dX6_prepare_14 rfl ?_
    refine q_aload_n dX6_prepare_15 rfl ?_
    refine q_getR dX6_prepare_16 fF_RX6_55 fl_1_3 ?_
    refine q_getR dX6_prepare_19 fF_RX6_78 fl_7_6 ?_
    refine q_iload_n dX6_prepare_22 rfl ?_
    refine q_ialdX (v := (σ 14 x2.toNatClampNeg)) dX6_prepare_23 ar_14 hi2 rfl ?_
    refine q_aload_n dX6_prepare_24 rfl ?_
    refine q_getR dX6_prepare_25 fF_RX6_81 fl_1_0 ?_
    refine q_iload_n dX6_prepare_28 rfl ?_
    obtain ⟨hi3, h⟩ := h
    refine q_ialdX (v := (σ 2 x3.toNatClampNeg)) dX6_prepare_29 ar_2 hi3 rfl ?_
    refine q_imul dX6_prepare_30 ?_
    refine q_bipush (v := 100) dX6_prepare_31 (by decide) ?_
    refine q_idiv dX6_prepare_33 (by decide) ?_
    refine q_iastX (F := upd (σ (127 + x2.toNatClampNeg)) x3.toNatClampNeg (((σ 14 x2.toNatClampNeg) * (σ 2 x3.toNatClampNeg)) / 100)) dX6_prepare_34 (rw_126 hi2) hi3 rfl ?_
    refine q_iinc (L' := [some (.ref (g.2.1 123)), some (.ref (g.2.1 1)), some (.int x2), some (.int (x3 + 1)), none, none]) dX6_prepare_35 rfl (by decide) rfl rfl ?_
    refine q_goto (tgt := 2) dX6_prepare_38 (by decide) ?_
    exact h

theorem s_X6_prepare_43 (g : vt_GT) (σ : vt_Sg) (P : Option Value → vt_Sg → Prop) (x2 : Int32) (x3 : Int32)
  (h : (12 ≤ x3 → P none σ) ∧ (¬ 12 ≤ x3 → TT g (vt_R 2) 0 0 D_X6_prepare none 55 [some (.ref (g.2.1 123)), some (.ref (g.2.1 1)), some (.int x2), some (.int x3), some (.int 0), some (.int 0)] [] σ P)) :
  TT g (vt_R 2) 0 0 D_X6_prepare none 43 [some (.ref (g.2.1 123)), some (.ref (g.2.1 1)), some (.int x2), some (.int x3), none, none] [] σ P := by
  refine q_iload_n dX6_prepare_43 rfl ?_
  refine q_bipush (v := 12) dX6_prepare_44 (by decide) ?_
  refine q_icmp_ge (tgt := 112) dX6_prepare_46 (by decide) (fun c1 => ?_) (fun c1 => ?_)
  · have h := h.1 c1
    exact q_vret rfl dX6_prepare_112 h
  · have h := h.2 c1
    refine q_iconst (v := 0) dX6_prepare_49 (by decide) ?_
    refine q_istore (L' := [some (.ref (g.2.1 123)), some (.ref (g.2.1 1)), some (.int x2), some (.int x3), some (.int 0), none]) dX6_prepare_50 (by decide) rfl rfl ?_
    refine q_iconst (v := 0) dX6_prepare_52 (by decide) ?_
    refine q_istore (L' := [some (.ref (g.2.1 123)), some (.ref (g.2.1 1)), some (.int x2), some (.int x3), some (.int 0), some (.int 0)]) dX6_prepare_53 (by decide) rfl rfl ?_
    exact h

theorem s_X6_prepare_55 (g : vt_GT) (σ : vt_Sg) (P : Option Value → vt_Sg → Prop) (x2 : Int32) (x3 : Int32) (x4 : Int32) (x5 : Int32)
  (h : ((σ 7 7) ≤ x5 → vp_in x2 12 ∧ (vp_in x3 12 ∧ (TT g (vt_R 2) 0 0 D_X6_prepare none 43 [some (.ref (g.2.1 123)), some (.ref (g.2.1 1)), some (.int x2), some (.int (x3 + 1)), none, none] [] (su σ (140 + x2.toNatClampNeg) (upd (σ (140 + x2.toNatClampNeg)) x3.toNatClampNeg x4)) P))) ∧ (¬ (σ 7 7) ≤ x5 → vp_in x2 12 ∧ (vp_in x5 12 ∧ (((σ 9 x2.toNatClampNeg = σ 9 x5.toNatClampNeg ∧ ¬ (if (σ 12 x2.toNatClampNeg) < (σ 12 x5.toNatClampNeg) then (σ 12 x5.toNatClampNeg) else (σ 12 x2.toNatClampNeg)) < x3) → TT g (vt_R 2) 0 0 D_X6_prepare none 55 [some (.ref (g.2.1 123)), some (.ref (g.2.1 1)), some (.int x2), some (.int x3), some (.int (x4 ||| (1 <<< (x5 &&& 31)))), some (.int (x5 + 1))] [] σ P) ∧ (¬ (σ 9 x2.toNatClampNeg = σ 9 x5.toNatClampNeg ∧ ¬ (if (σ 12 x2.toNatClampNeg) < (σ 12 x5.toNatClampNeg) then (σ 12 x5.toNatClampNeg) else (σ 12 x2.toNatClampNeg)) < x3) → TT g (vt_R 2) 0 0 D_X6_prepare none 55 [some (.ref (g.2.1 123)), some (.ref (g.2.1 1)), some (.int x2), some (.int x3), some (.int x4), some (.int (x5 + 1))] [] σ P))))) :
  TT g (vt_R 2) 0 0 D_X6_prepare none 55 [some (.ref (g.2.1 123)), some (.ref (g.2.1 1)), some (.int x2), some (.int x3), some (.int x4), some (.int x5)] [] σ P := by
  refine q_iload dX6_prepare_55 rfl ?_
  refine q_aload_n dX6_prepare_57 rfl ?_
  refine q_getR dX6_prepare_58 fF_RX6_55 fl_1_3 ?_
  refine q_getX (x := (σ 7 7)) dX6_prepare_61 fF_RX6_61 fl_7_7 rfl ?_
  refine q_icmp_ge (tgt := 96) dX6_prepare_64 (by decide) (fun c1 => ?_) (fun c1 => ?_)
  · have h := h.1 c1
    refine q_aload_n dX6_prepare_96 rfl ?_
    refine q_getR dX6_prepare_97 fF_RX6_23 fl_123_5 ?_
    refine q_iload_n dX6_prepare_100 rfl ?_
    obtain ⟨hi2, h⟩ := h
    refine q_aald dX6_prepare_101 ar2_139 (by decide) hi2 ?_
    refine q_iload_n dX6_prepare_102 rfl ?_
    refine q_iload dX6_prepare_103 rfl ?_
    obtain ⟨hi3, h⟩ := h
    refine q_iastX (F := upd (σ (140 + x2.toNatClampNeg)) x3.toNatClampNeg x4) dX6_prepare_105 (rw_139 hi2) hi3 rfl ?_
    refine q_iinc (L' := [some (.ref (g.2.1 123)), some (.ref (g.2.1 1)), some (.int x2), some (.int (x3 + 1)), some (.int x4), some (.int x5)]) dX6_prepare_106 rfl (by decide) rfl rfl ?_
    refine q_goto (tgt := 43) dX6_prepare_109 (by decide) ?_
    exact q_wk (by simp [vt_le]) h
  · have h := h.2 c1
    refine q_aload_n dX6_prepare_67 rfl ?_
    refine q_getR dX6_prepare_68 fF_RX6_55 fl_1_3 ?_
    refine q_iload_n dX6_prepare_71 rfl ?_
    refine q_iload dX6_prepare_72 rfl ?_
    refine q_iload_n dX6_prepare_74 rfl ?_
    obtain ⟨hp4, h⟩ := h
    obtain ⟨hp5, h⟩ := h
    refine q_cVb (C := σ 9 x2.toNatClampNeg = σ 9 x5.toNatClampNeg ∧ ¬ (if (σ 12 x2.toNatClampNeg) < (σ 12 x5.toNatClampNeg) then (σ 12 x5.toNatClampNeg) else (σ 12 x2.toNatClampNeg)) < x3) (d' := 1) [.int x2, .int x5, .int x3] [] dX6_prepare_75 ok_X10_rivals mk_RX6_84 rc_7 rfl (Nat.le_of_ble_eq_true rfl) (by first | decide | omega) (fun Φ h9 => c_X10_rivals (σ := σ) hp4 hp5 Φ h9) (fun c6 => ?_) (fun c6 => ?_)
    · have h := h.1 c6
      refine q_if_eq (tgt := 90) dX6_prepare_78 (by decide) (fun c => absurd c (by decide)) (fun _ => ?_)
      refine q_iload dX6_prepare_81 rfl ?_
      refine q_iconst (v := 1) dX6_prepare_83 (by decide) ?_
      refine q_iload dX6_prepare_84 rfl ?_
      refine q_ishl dX6_prepare_86 ?_
      refine q_ior dX6_prepare_87 ?_
      refine q_istore (L' := [some (.ref (g.2.1 123)), some (.ref (g.2.1 1)), some (.int x2), some (.int x3), some (.int (x4 ||| (1 <<< (x5 &&& 31)))), some (.int x5)]) dX6_prepare_88 (by decide) rfl rfl ?_
      refine q_iinc (L' := [some (.ref (g.2.1 123)), some (.ref (g.2.1 1)), some (.int x2), some (.int x3), some (.int (x4 ||| (1 <<< (x5 &&& 31)))), some (.int (x5 + 1))]) dX6_prepare_90 rfl (by decide) rfl rfl ?_
      refine q_goto (tgt := 55) dX6_prepare_93 (by decide) ?_
      exact h
    · have h := h.2 c6
      refine q_if_eq (tgt := 90) dX6_prepare_78 (by decide) (fun _ => ?_) (fun c => absurd (by decide) c)
      refine q_iinc (L' := [some (.ref (g.2.1 123)), some (.ref (g.2.1 1)), some (.int x2), some (.int x3), some (.int x4), some (.int (x5 + 1))]) dX6_prepare_90 rfl (by decide) rfl rfl ?_
      refine q_goto (tgt := 55) dX6_prepare_93 (by decide) ?_
      exact h

theorem s_X6_fitAtFirst_0 (g : vt_GT) (σ : vt_Sg) (P : Option Value → vt_Sg → Prop) (p2 : Int32)
  (h : vp_in p2 12 ∧ (((σ 118 p2.toNatClampNeg) = (-1000000005) → TT g (vt_R 1) 0 0 D_X6_fitAtFirst none 18 [some (.ref (g.2.1 123)), some (.ref (g.2.1 116)), some (.int p2), some (.int 0), some (.int 0), none] [] σ P) ∧ (¬ (σ 118 p2.toNatClampNeg) = (-1000000005) → P (some (.int 0)) σ))) :
  TT g (vt_R 1) 0 0 D_X6_fitAtFirst none 0 [some (.ref (g.2.1 123)), some (.ref (g.2.1 116)), some (.int p2), none, none, none] [] σ P := by
  refine q_aload_n dX6_fitAtFirst_0 rfl ?_
  refine q_getR dX6_fitAtFirst_1 fF_RX6_86 fl_116_4 ?_
  refine q_iload_n dX6_fitAtFirst_4 rfl ?_
  obtain ⟨hi1, h⟩ := h
  refine q_ialdX (v := (σ 118 p2.toNatClampNeg)) dX6_fitAtFirst_5 ar_118 hi1 rfl ?_
  refine q_ldc dX6_fitAtFirst_6 ct_RX6_42 ?_
  refine q_icmp_eq (tgt := 13) dX6_fitAtFirst_8 (by decide) (fun c2 => ?_) (fun c2 => ?_)
  · have h := h.1 c2
    refine q_iconst (v := 0) dX6_fitAtFirst_13 (by decide) ?_
    refine q_istore_n (L' := [some (.ref (g.2.1 123)), some (.ref (g.2.1 116)), some (.int p2), some (.int 0), none, none]) dX6_fitAtFirst_14 (by decide) rfl rfl ?_
    refine q_iconst (v := 0) dX6_fitAtFirst_15 (by decide) ?_
    refine q_istore (L' := [some (.ref (g.2.1 123)), some (.ref (g.2.1 116)), some (.int p2), some (.int 0), some (.int 0), none]) dX6_fitAtFirst_16 (by decide) rfl rfl ?_
    exact h
  · have h := h.2 c2
    refine q_iconst (v := 0) dX6_fitAtFirst_11 (by decide) ?_
    exact q_iret .int rfl rfl dX6_fitAtFirst_12 h

theorem s_X6_fitAtFirst_18 (g : vt_GT) (σ : vt_Sg) (P : Option Value → vt_Sg → Prop) (x2 : Int32) (x3 : Int32) (x4 : Int32)
  (h : ((σ 7 7) ≤ x4 → TT g (vt_R 1) 0 0 D_X6_fitAtFirst none 61 [some (.ref (g.2.1 123)), some (.ref (g.2.1 116)), some (.int x2), some (.int x3), some (.int 0), none] [] σ P) ∧ (¬ (σ 7 7) ≤ x4 → vp_in x4 12 ∧ ((¬ (σ 117 x4.toNatClampNeg) = (-1000000005) → TT g (vt_R 1) 0 0 D_X6_fitAtFirst none 18 [some (.ref (g.2.1 123)), some (.ref (g.2.1 116)), some (.int x2), some (.int x3), some (.int (x4 + 1)), none] [] σ P) ∧ ((σ 117 x4.toNatClampNeg) = (-1000000005) → TT g (vt_R 1) 0 0 D_X6_fitAtFirst none 18 [some (.ref (g.2.1 123)), some (.ref (g.2.1 116)), some (.int x2), some (.int (x3 ||| (1 <<< (x4 &&& 31)))), some (.int (x4 + 1)), none] [] σ P)))) :
  TT g (vt_R 1) 0 0 D_X6_fitAtFirst none 18 [some (.ref (g.2.1 123)), some (.ref (g.2.1 116)), some (.int x2), some (.int x3), some (.int x4), none] [] σ P := by
  refine q_iload dX6_fitAtFirst_18 rfl ?_
  refine q_aload_n dX6_fitAtFirst_20 rfl ?_
  refine q_getR dX6_fitAtFirst_21 fF_RX6_49 fl_116_0 ?_
  refine q_getR dX6_fitAtFirst_24 fF_RX6_55 fl_1_3 ?_
  refine q_getX (x := (σ 7 7)) dX6_fitAtFirst_27 fF_RX6_61 fl_7_7 rfl ?_
  refine q_icmp_ge (tgt := 58) dX6_fitAtFirst_30 (by decide) (fun c1 => ?_) (fun c1 => ?_)
  · have h := h.1 c1
    refine q_iconst (v := 0) dX6_fitAtFirst_58 (by decide) ?_
    refine q_istore (L' := [some (.ref (g.2.1 123)), some (.ref (g.2.1 116)), some (.int x2), some (.int x3), some (.int 0), none]) dX6_fitAtFirst_59 (by decide) rfl rfl ?_
    exact h
  · have h := h.2 c1
    refine q_aload_n dX6_fitAtFirst_33 rfl ?_
    refine q_getR dX6_fitAtFirst_34 fF_RX6_89 fl_116_3 ?_
    refine q_iload dX6_fitAtFirst_37 rfl ?_
    obtain ⟨hi2, h⟩ := h
    refine q_ialdX (v := (σ 117 x4.toNatClampNeg)) dX6_fitAtFirst_39 ar_117 hi2 rfl ?_
    refine q_ldc dX6_fitAtFirst_40 ct_RX6_42 ?_
    refine q_icmp_ne (tgt := 52) dX6_fitAtFirst_42 (by decide) (fun c3 => ?_) (fun c3 => ?_)
    · have h := h.1 c3
      refine q_iinc (L' := [some (.ref (g.2.1 123)), some (.ref (g.2.1 116)), some (.int x2), some (.int x3), some (.int (x4 + 1)), none]) dX6_fitAtFirst_52 rfl (by decide) rfl rfl ?_
      refine q_goto (tgt := 18) dX6_fitAtFirst_55 (by decide) ?_
      exact h
    · have h := h.2 c3
      refine q_iload_n dX6_fitAtFirst_45 rfl ?_
      refine q_iconst (v := 1) dX6_fitAtFirst_46 (by decide) ?_
      refine q_iload dX6_fitAtFirst_47 rfl ?_
      refine q_ishl dX6_fitAtFirst_49 ?_
      refine q_ior dX6_fitAtFirst_50 ?_
      refine q_istore_n (L' := [some (.ref (g.2.1 123)), some (.ref (g.2.1 116)), some (.int x2), some (.int (x3 ||| (1 <<< (x4 &&& 31)))), some (.int x4), none]) dX6_fitAtFirst_51 (by decide) rfl rfl ?_
      refine q_iinc (L' := [some (.ref (g.2.1 123)), some (.ref (g.2.1 116)), some (.int x2), some (.int (x3 ||| (1 <<< (x4 &&& 31)))), some (.int (x4 + 1)), none]) dX6_fitAtFirst_52 rfl (by decide) rfl rfl ?_
      refine q_goto (tgt := 18) dX6_fitAtFirst_55 (by decide) ?_
      exact h

theorem s_X6_fitAtFirst_61 (g : vt_GT) (σ : vt_Sg) (P : Option Value → vt_Sg → Prop) (x2 : Int32) (x3 : Int32) (x4 : Int32)
  (h : ((σ 7 7) ≤ x4 → P (some (.int x3)) σ) ∧ (¬ (σ 7 7) ≤ x4 → vp_in x4 12 ∧ (((σ 117 x4.toNatClampNeg) = (-1000000005) → TT g (vt_R 1) 0 0 D_X6_fitAtFirst none 61 [some (.ref (g.2.1 123)), some (.ref (g.2.1 116)), some (.int x2), some (.int x3), some (.int (x4 + 1)), none] [] σ P) ∧ (¬ (σ 117 x4.toNatClampNeg) = (-1000000005) → vp_in (if 0 ≤ ((σ 117 x4.toNatClampNeg) - x2) then ((σ 117 x4.toNatClampNeg) - x2) else 0 - ((σ 117 x4.toNatClampNeg) - x2)) 12 ∧ (TT g (vt_R 1) 0 0 D_X6_fitAtFirst none 61 [some (.ref (g.2.1 123)), some (.ref (g.2.1 116)), some (.int x2), some (.int (x3 &&& (((σ (140 + x4.toNatClampNeg)) (if 0 ≤ ((σ 117 x4.toNatClampNeg) - x2) then ((σ 117 x4.toNatClampNeg) - x2) else 0 - ((σ 117 x4.toNatClampNeg) - x2)).toNatClampNeg) ^^^ (-1)))), some (.int (x4 + 1)), none] [] σ P))))) :
  TT g (vt_R 1) 0 0 D_X6_fitAtFirst none 61 [some (.ref (g.2.1 123)), some (.ref (g.2.1 116)), some (.int x2), some (.int x3), some (.int x4), none] [] σ P := by
  refine q_iload dX6_fitAtFirst_61 rfl ?_
  refine q_aload_n dX6_fitAtFirst_63 rfl ?_
  refine q_getR dX6_fitAtFirst_64 fF_RX6_49 fl_116_0 ?_
  refine q_getR dX6_fitAtFirst_67 fF_RX6_55 fl_1_3 ?_
  refine q_getX (x := (σ 7 7)) dX6_fitAtFirst_70 fF_RX6_61 fl_7_7 rfl ?_
  refine q_icmp_ge (tgt := 118) dX6_fitAtFirst_73 (by decide) (fun c1 => ?_) (fun c1 => ?_)
  · have h := h.1 c1
    refine q_iload_n dX6_fitAtFirst_118 rfl ?_
    exact q_iret .int rfl rfl dX6_fitAtFirst_119 h
  · have h := h.2 c1
    refine q_aload_n dX6_fitAtFirst_76 rfl ?_
    refine q_getR dX6_fitAtFirst_77 fF_RX6_89 fl_116_3 ?_
    refine q_iload dX6_fitAtFirst_80 rfl ?_
    obtain ⟨hi2, h⟩ := h
    refine q_ialdX (v := (σ 117 x4.toNatClampNeg)) dX6_fitAtFirst_82 ar_117 hi2 rfl ?_
    refine q_istore (L' := [some (.ref (g.2.1 123)), some (.ref (g.2.1 116)), some (.int x2), some (.int x3), some (.int x4), some (.int (σ 117 x4.toNatClampNeg))]) dX6_fitAtFirst_83 (by decide) rfl rfl ?_
    refine q_iload dX6_fitAtFirst_85 rfl ?_
    refine q_ldc dX6_fitAtFirst_87 ct_RX6_42 ?_
    refine q_icmp_eq (tgt := 112) dX6_fitAtFirst_89 (by decide) (fun c3 => ?_) (fun c3 => ?_)
    · have h := h.1 c3
      refine q_iinc (L' := [some (.ref (g.2.1 123)), some (.ref (g.2.1 116)), some (.int x2), some (.int x3), some (.int (x4 + 1)), some (.int (σ 117 x4.toNatClampNeg))]) dX6_fitAtFirst_112 rfl (by decide) rfl rfl ?_
      refine q_goto (tgt := 61) dX6_fitAtFirst_115 (by decide) ?_
      exact q_wk (by simp [vt_le]) h
    · have h := h.2 c3
      refine q_iload_n dX6_fitAtFirst_92 rfl ?_
      refine q_aload_n dX6_fitAtFirst_93 rfl ?_
      refine q_getR dX6_fitAtFirst_94 fF_RX6_23 fl_123_5 ?_
      refine q_iload dX6_fitAtFirst_97 rfl ?_
      refine q_aald dX6_fitAtFirst_99 ar2_139 (by decide) hi2 ?_
      refine q_iload dX6_fitAtFirst_100 rfl ?_
      refine q_iload_n dX6_fitAtFirst_102 rfl ?_
      refine q_isub dX6_fitAtFirst_103 ?_
      refine q_abs dX6_fitAtFirst_104 mk_RX6_92 sta_abs ini_math cod_abs (Nat.le_of_ble_eq_true rfl) (by first | decide | omega) ?_
      obtain ⟨hi4, h⟩ := h
      refine q_ialdX (v := ((σ (140 + x4.toNatClampNeg)) (if 0 ≤ ((σ 117 x4.toNatClampNeg) - x2) then ((σ 117 x4.toNatClampNeg) - x2) else 0 - ((σ 117 x4.toNatClampNeg) - x2)).toNatClampNeg)) dX6_fitAtFirst_107 (rw_139 hi2) hi4 rfl ?_
      refine q_iconst (v := (-1)) dX6_fitAtFirst_108 (by decide) ?_
      refine q_ixor dX6_fitAtFirst_109 ?_
      refine q_iand dX6_fitAtFirst_110 ?_
      refine q_istore_n (L' := [some (.ref (g.2.1 123)), some (.ref (g.2.1 116)), some (.int x2), some (.int (x3 &&& (((σ (140 + x4.toNatClampNeg)) (if 0 ≤ ((σ 117 x4.toNatClampNeg) - x2) then ((σ 117 x4.toNatClampNeg) - x2) else 0 - ((σ 117 x4.toNatClampNeg) - x2)).toNatClampNeg) ^^^ (-1)))), some (.int x4), some (.int (σ 117 x4.toNatClampNeg))]) dX6_fitAtFirst_111 (by decide) rfl rfl ?_
      refine q_iinc (L' := [some (.ref (g.2.1 123)), some (.ref (g.2.1 116)), some (.int x2), some (.int (x3 &&& (((σ (140 + x4.toNatClampNeg)) (if 0 ≤ ((σ 117 x4.toNatClampNeg) - x2) then ((σ 117 x4.toNatClampNeg) - x2) else 0 - ((σ 117 x4.toNatClampNeg) - x2)).toNatClampNeg) ^^^ (-1)))), some (.int (x4 + 1)), some (.int (σ 117 x4.toNatClampNeg))]) dX6_fitAtFirst_112 rfl (by decide) rfl rfl ?_
      refine q_goto (tgt := 61) dX6_fitAtFirst_115 (by decide) ?_
      exact q_wk (by simp [vt_le]) h

theorem s_X6_extend_0 (g : vt_GT) (σ : vt_Sg) (P : Option Value → vt_Sg → Prop) (d : Nat) (hd : 9 ≤ d) (p1 : Int32) (p2 : Int32) (p3 : Int32)
  (h : vt_Mv g 1 D_X6_compare [.ref (g.2.1 123), .int p1, .int p3] σ (fun σ1 => (p1 < 12 → TT g (vt_R (d + 1)) 0 0 D_X6_extend none 18 [some (.ref (g.2.1 123)), some (.int p1), some (.int p2), some (.int p3), some (.int 11), none, none, none] [] σ1 P) ∧ (¬ p1 < 12 → P (some (.int 1)) σ1))) :
  TT g (vt_R (d + 1)) 0 0 D_X6_extend none 0 [some (.ref (g.2.1 123)), some (.int p1), some (.int p2), some (.int p3), none, none, none, none] [] σ P := by
  refine q_aload_n dX6_extend_0 rfl ?_
  refine q_iload_n dX6_extend_1 rfl ?_
  refine q_iload_n dX6_extend_2 rfl ?_
  refine q_cV (d' := 1) [.int p1, .int p3] [] dX6_extend_3 ok_X6_compare mk_RX6_98 rc_123 rfl (Nat.le_of_ble_eq_true rfl) (by first | decide | omega) h (fun v σ1 h => ?_)
  obtain ⟨rfl, h⟩ := h
  refine q_iload_n dX6_extend_6 rfl ?_
  refine q_bipush (v := 12) dX6_extend_7 (by decide) ?_
  refine q_icmp_lt (tgt := 14) dX6_extend_9 (by decide) (fun c2 => ?_) (fun c2 => ?_)
  · have h := h.1 c2
    refine q_bipush (v := 11) dX6_extend_14 (by decide) ?_
    refine q_istore (L' := [some (.ref (g.2.1 123)), some (.int p1), some (.int p2), some (.int p3), some (.int 11), none, none, none]) dX6_extend_16 (by decide) rfl rfl ?_
    exact h
  · have h := h.2 c2
    refine q_iconst (v := 1) dX6_extend_12 (by decide) ?_
    exact q_iret .boolean rfl rfl dX6_extend_13 h

theorem s_X6_extend_18 (g : vt_GT) (σ : vt_Sg) (P : Option Value → vt_Sg → Prop) (d : Nat) (hd : 9 ≤ d) (x1 : Int32) (x2 : Int32) (x3 : Int32) (x4 : Int32)
  (h : (x4 < x2 → P (some (.int 1)) σ) ∧ (¬ x4 < x2 → vp_in x1 13 ∧ (vp_in x4 12 ∧ (TT g (vt_R (d + 1)) 0 0 D_X6_extend none 38 [some (.ref (g.2.1 123)), some (.int x1), some (.int x2), some (.int x3), some (.int x4), some (.int ((σ (153 + x1.toNatClampNeg)) x4.toNatClampNeg)), some (.int 0), none] [] σ P)))) :
  TT g (vt_R (d + 1)) 0 0 D_X6_extend none 18 [some (.ref (g.2.1 123)), some (.int x1), some (.int x2), some (.int x3), some (.int x4), none, none, none] [] σ P := by
  refine q_iload dX6_extend_18 rfl ?_
  refine q_iload_n dX6_extend_20 rfl ?_
  refine q_icmp_lt (tgt := 160) dX6_extend_21 (by decide) (fun c1 => ?_) (fun c1 => ?_)
  · have h := h.1 c1
    refine q_iconst (v := 1) dX6_extend_160 (by decide) ?_
    exact q_iret .boolean rfl rfl dX6_extend_161 h
  · have h := h.2 c1
    refine q_aload_n dX6_extend_24 rfl ?_
    refine q_getR dX6_extend_25 fF_RX6_26 fl_123_6 ?_
    refine q_iload_n dX6_extend_28 rfl ?_
    obtain ⟨hi2, h⟩ := h
    refine q_aald dX6_extend_29 ar2_152 (by decide) hi2 ?_
    refine q_iload dX6_extend_30 rfl ?_
    obtain ⟨hi3, h⟩ := h
    refine q_ialdX (v := ((σ (153 + x1.toNatClampNeg)) x4.toNatClampNeg)) dX6_extend_32 (rw_152 hi2) hi3 rfl ?_
    refine q_istore (L' := [some (.ref (g.2.1 123)), some (.int x1), some (.int x2), some (.int x3), some (.int x4), some (.int ((σ (153 + x1.toNatClampNeg)) x4.toNatClampNeg)), none, none]) dX6_extend_33 (by decide) rfl rfl ?_
    refine q_iconst (v := 0) dX6_extend_35 (by decide) ?_
    refine q_istore (L' := [some (.ref (g.2.1 123)), some (.int x1), some (.int x2), some (.int x3), some (.int x4), some (.int ((σ (153 + x1.toNatClampNeg)) x4.toNatClampNeg)), some (.int 0), none]) dX6_extend_36 (by decide) rfl rfl ?_
    exact h

theorem s_X6_extend_38 (g : vt_GT) (σ : vt_Sg) (P : Option Value → vt_Sg → Prop) (d : Nat) (hd : 9 ≤ d) (x1 : Int32) (x2 : Int32) (x3 : Int32) (x4 : Int32) (x5 : Int32) (x6 : Int32)
  (h : (12 ≤ x6 → TT g (vt_R (d + 1)) 0 0 D_X6_extend none 18 [some (.ref (g.2.1 123)), some (.int x1), some (.int x2), some (.int x3), some (.int (x4 + (-1))), none, none, none] [] σ P) ∧ (¬ 12 ≤ x6 → ((x5 >>> (x6 &&& 31)) = 0 → TT g (vt_R (d + 1)) 0 0 D_X6_extend none 18 [some (.ref (g.2.1 123)), some (.int x1), some (.int x2), some (.int x3), some (.int (x4 + (-1))), none, none, none] [] σ P) ∧ (¬ (x5 >>> (x6 &&& 31)) = 0 → (¬ ((x5 >>> (x6 &&& 31)) &&& 1) = 0 → ((σ 123 7) < (σ 123 8) → vp_in x4 12 ∧ (vt_Mv g 0 D_X6_narrow [.ref (g.2.1 123), .int x1, .int x4, .int x6] (su (su σ 123 (upd (σ 123) 7 ((σ 123 7) + 1))) 125 (upd (σ 125) x4.toNatClampNeg x6)) (fun σ6 => vp_in x6 12 ∧ (vt_Mi g d D_X6_extend [.ref (g.2.1 123), .int (x1 + 1), .int (x4 + 1), .int (x3 + ((σ6 (127 + x6.toNatClampNeg)) x4.toNatClampNeg))] σ6 (fun r9 σ8 => (¬ r9 = 0 → TT g (vt_R (d + 1)) 0 0 D_X6_extend none 38 [some (.ref (g.2.1 123)), some (.int x1), some (.int x2), some (.int x3), some (.int x4), some (.int x5), some (.int (x6 + 1)), none] [] (su σ8 125 (upd (σ8 125) x4.toNatClampNeg (-1000000005))) P) ∧ (r9 = 0 → P (some (.int 0)) (su σ8 125 (upd (σ8 125) x4.toNatClampNeg (-1000000005))))))))) ∧ (¬ (σ 123 7) < (σ 123 8) → P (some (.int 0)) σ)) ∧ (((x5 >>> (x6 &&& 31)) &&& 1) = 0 → TT g (vt_R (d + 1)) 0 0 D_X6_extend none 38 [some (.ref (g.2.1 123)), some (.int x1), some (.int x2), some (.int x3), some (.int x4), some (.int x5), some (.int (x6 + 1)), none] [] σ P)))) :
  TT g (vt_R (d + 1)) 0 0 D_X6_extend none 38 [some (.ref (g.2.1 123)), some (.int x1), some (.int x2), some (.int x3), some (.int x4), some (.int x5), some (.int x6), none] [] σ P := by
  refine q_iload dX6_extend_38 rfl ?_
  refine q_bipush (v := 12) dX6_extend_40 (by decide) ?_
  refine q_icmp_ge (tgt := 154) dX6_extend_42 (by decide) (fun c1 => ?_) (fun c1 => ?_)
  · have h := h.1 c1
    refine q_iinc (L' := [some (.ref (g.2.1 123)), some (.int x1), some (.int x2), some (.int x3), some (.int (x4 + (-1))), some (.int x5), some (.int x6), none]) dX6_extend_154 rfl (by decide) rfl rfl ?_
    refine q_goto (tgt := 18) dX6_extend_157 (by decide) ?_
    exact q_wk (by simp [vt_le]) h
  · have h := h.2 c1
    refine q_iload dX6_extend_45 rfl ?_
    refine q_iload dX6_extend_47 rfl ?_
    refine q_ishr dX6_extend_49 ?_
    refine q_if_eq (tgt := 154) dX6_extend_50 (by decide) (fun c2 => ?_) (fun c2 => ?_)
    · have h := h.1 c2
      refine q_iinc (L' := [some (.ref (g.2.1 123)), some (.int x1), some (.int x2), some (.int x3), some (.int (x4 + (-1))), some (.int x5), some (.int x6), none]) dX6_extend_154 rfl (by decide) rfl rfl ?_
      refine q_goto (tgt := 18) dX6_extend_157 (by decide) ?_
      exact q_wk (by simp [vt_le]) h
    · have h := h.2 c2
      refine q_iload dX6_extend_53 rfl ?_
      refine q_iload dX6_extend_55 rfl ?_
      refine q_ishr dX6_extend_57 ?_
      refine q_iconst (v := 1) dX6_extend_58 (by decide) ?_
      refine q_iand dX6_extend_59 ?_
      refine q_if_ne (tgt := 66) dX6_extend_60 (by decide) (fun c3 => ?_) (fun c3 => ?_)
      · have h := h.1 c3
        refine q_aload_n dX6_extend_66 rfl ?_
        refine q_getX (x := (σ 123 7)) dX6_extend_67 fF_RX6_33 fl_123_7 rfl ?_
        refine q_aload_n dX6_extend_70 rfl ?_
        refine q_getX (x := (σ 123 8)) dX6_extend_71 fF_RX6_29 fl_123_8 rfl ?_
        refine q_icmp_lt (tgt := 79) dX6_extend_74 (by decide) (fun c4 => ?_) (fun c4 => ?_)
        · have h := h.1 c4
          refine q_aload_n dX6_extend_79 rfl ?_
          refine q_dup dX6_extend_80 rfl ?_
          refine q_getX (x := (σ 123 7)) dX6_extend_81 fF_RX6_33 fl_123_7 rfl ?_
          refine q_iconst (v := 1) dX6_extend_84 (by decide) ?_
          refine q_iadd dX6_extend_85 ?_
          refine q_putX (F := upd (σ 123) 7 ((σ 123 7) + 1)) dX6_extend_86 fF_RX6_33 fP_6_7 fl_123_7 rfl ?_
          refine q_aload_n dX6_extend_89 rfl ?_
          refine q_getR dX6_extend_90 fF_RX6_15 fl_123_3 ?_
          refine q_iload dX6_extend_93 rfl ?_
          refine q_iload dX6_extend_95 rfl ?_
          obtain ⟨hi5, h⟩ := h
          refine q_iastX (F := upd (σ 125) x4.toNatClampNeg x6) dX6_extend_97 ar_125 hi5 rfl ?_
          refine q_aload_n dX6_extend_98 rfl ?_
          refine q_iload_n dX6_extend_99 rfl ?_
          refine q_iload dX6_extend_100 rfl ?_
          refine q_iload dX6_extend_102 rfl ?_
          refine q_cV (d' := 0) [.int x1, .int x4, .int x6] [] dX6_extend_104 ok_X6_narrow mk_RX6_102 rc_123 rfl (Nat.le_of_ble_eq_true rfl) (by first | decide | omega) h (fun v σ6 h => ?_)
          obtain ⟨rfl, h⟩ := h
          refine q_aload_n dX6_extend_107 rfl ?_
          refine q_iload_n dX6_extend_108 rfl ?_
          refine q_iconst (v := 1) dX6_extend_109 (by decide) ?_
          refine q_iadd dX6_extend_110 ?_
          refine q_iload dX6_extend_111 rfl ?_
          refine q_iconst (v := 1) dX6_extend_113 (by decide) ?_
          refine q_iadd dX6_extend_114 ?_
          refine q_iload_n dX6_extend_115 rfl ?_
          refine q_aload_n dX6_extend_116 rfl ?_
          refine q_getR dX6_extend_117 fF_RX6_20 fl_123_4 ?_
          refine q_iload dX6_extend_120 rfl ?_
          obtain ⟨hi7, h⟩ := h
          refine q_aald dX6_extend_122 ar2_126 (by decide) hi7 ?_
          refine q_iload dX6_extend_123 rfl ?_
          refine q_ialdX (v := ((σ6 (127 + x6.toNatClampNeg)) x4.toNatClampNeg)) dX6_extend_125 (rw_126 hi7) hi5 rfl ?_
          refine q_iadd dX6_extend_126 ?_
          refine q_cV (d' := d) [.int (x1 + 1), .int (x4 + 1), .int (x3 + ((σ6 (127 + x6.toNatClampNeg)) x4.toNatClampNeg))] [] dX6_extend_127 ok_X6_extend mk_RX6_74 rc_123 rfl (Nat.le_of_ble_eq_true rfl) (by first | decide | omega) h (fun v σ8 h => ?_)
          obtain ⟨r9, rfl, h⟩ := h
          refine q_istore (L' := [some (.ref (g.2.1 123)), some (.int x1), some (.int x2), some (.int x3), some (.int x4), some (.int x5), some (.int x6), some (.int r9)]) dX6_extend_130 (by decide) rfl rfl ?_
          refine q_aload_n dX6_extend_132 rfl ?_
          refine q_getR dX6_extend_133 fF_RX6_15 fl_123_3 ?_
          refine q_iload dX6_extend_136 rfl ?_
          refine q_ldc dX6_extend_138 ct_RX6_42 ?_
          refine q_iastX (F := upd (σ8 125) x4.toNatClampNeg (-1000000005)) dX6_extend_140 ar_125 hi5 rfl ?_
          refine q_iload dX6_extend_141 rfl ?_
          refine q_if_ne (tgt := 148) dX6_extend_143 (by decide) (fun c10 => ?_) (fun c10 => ?_)
          · have h := h.1 c10
            refine q_iinc (L' := [some (.ref (g.2.1 123)), some (.int x1), some (.int x2), some (.int x3), some (.int x4), some (.int x5), some (.int (x6 + 1)), some (.int r9)]) dX6_extend_148 rfl (by decide) rfl rfl ?_
            refine q_goto (tgt := 38) dX6_extend_151 (by decide) ?_
            exact q_wk (by simp [vt_le]) h
          · have h := h.2 c10
            refine q_iconst (v := 0) dX6_extend_146 (by decide) ?_
            exact q_iret .boolean rfl rfl dX6_extend_147 h
        · have h := h.2 c4
          refine q_iconst (v := 0) dX6_extend_77 (by decide) ?_
          exact q_iret .boolean rfl rfl dX6_extend_78 h
      · have h := h.2 c3
        refine q_goto (tgt := 148) dX6_extend_63 (by decide) ?_
        refine q_iinc (L' := [some (.ref (g.2.1 123)), some (.int x1), some (.int x2), some (.int x3), some (.int x4), some (.int x5), some (.int (x6 + 1)), none]) dX6_extend_148 rfl (by decide) rfl rfl ?_
        refine q_goto (tgt := 38) dX6_extend_151 (by decide) ?_
        exact h

theorem s_X6_narrow_0 (g : vt_GT) (σ : vt_Sg) (P : Option Value → vt_Sg → Prop) (p1 : Int32) (p2 : Int32) (p3 : Int32)
  (h : TT g (vt_R 0) 0 0 D_X6_narrow none 5 [some (.ref (g.2.1 123)), some (.int p1), some (.int p2), some (.int p3), some (.int (p2 + 1)), none] [] σ P) :
  TT g (vt_R 0) 0 0 D_X6_narrow none 0 [some (.ref (g.2.1 123)), some (.int p1), some (.int p2), some (.int p3), none, none] [] σ P := by
  refine q_iload_n dX6_narrow_0 rfl ?_
  refine q_iconst (v := 1) dX6_narrow_1 (by decide) ?_
  refine q_iadd dX6_narrow_2 ?_
  refine q_istore (L' := [some (.ref (g.2.1 123)), some (.int p1), some (.int p2), some (.int p3), some (.int (p2 + 1)), none]) dX6_narrow_3 (by decide) rfl rfl ?_
  exact h

theorem s_X6_narrow_5 (g : vt_GT) (σ : vt_Sg) (P : Option Value → vt_Sg → Prop) (x1 : Int32) (x2 : Int32) (x3 : Int32) (x4 : Int32)
  (h : (12 ≤ x4 → P none σ) ∧ (¬ 12 ≤ x4 → vp_in x3 12 ∧ (vp_in (x4 - x2) 12 ∧ (vp_in (x1 + 1) 13 ∧ (vp_in x1 13 ∧ (vp_in x4 12 ∧ (TT g (vt_R 0) 0 0 D_X6_narrow none 5 [some (.ref (g.2.1 123)), some (.int x1), some (.int x2), some (.int x3), some (.int (x4 + 1)), none] [] (su σ (153 + (x1 + 1).toNatClampNeg) (upd (σ (153 + (x1 + 1).toNatClampNeg)) x4.toNatClampNeg (((σ (153 + x1.toNatClampNeg)) x4.toNatClampNeg) &&& ((((σ (140 + x3.toNatClampNeg)) (x4 - x2).toNatClampNeg) ||| (1 <<< (x3 &&& 31))) ^^^ (-1))))) P))))))) :
  TT g (vt_R 0) 0 0 D_X6_narrow none 5 [some (.ref (g.2.1 123)), some (.int x1), some (.int x2), some (.int x3), some (.int x4), none] [] σ P := by
  refine q_iload dX6_narrow_5 rfl ?_
  refine q_bipush (v := 12) dX6_narrow_7 (by decide) ?_
  refine q_icmp_ge (tgt := 60) dX6_narrow_9 (by decide) (fun c1 => ?_) (fun c1 => ?_)
  · have h := h.1 c1
    exact q_vret rfl dX6_narrow_60 h
  · have h := h.2 c1
    refine q_aload_n dX6_narrow_12 rfl ?_
    refine q_getR dX6_narrow_13 fF_RX6_23 fl_123_5 ?_
    refine q_iload_n dX6_narrow_16 rfl ?_
    obtain ⟨hi2, h⟩ := h
    refine q_aald dX6_narrow_17 ar2_139 (by decide) hi2 ?_
    refine q_iload dX6_narrow_18 rfl ?_
    refine q_iload_n dX6_narrow_20 rfl ?_
    refine q_isub dX6_narrow_21 ?_
    obtain ⟨hi3, h⟩ := h
    refine q_ialdX (v := ((σ (140 + x3.toNatClampNeg)) (x4 - x2).toNatClampNeg)) dX6_narrow_22 (rw_139 hi2) hi3 rfl ?_
    refine q_iconst (v := 1) dX6_narrow_23 (by decide) ?_
    refine q_iload_n dX6_narrow_24 rfl ?_
    refine q_ishl dX6_narrow_25 ?_
    refine q_ior dX6_narrow_26 ?_
    refine q_istore (L' := [some (.ref (g.2.1 123)), some (.int x1), some (.int x2), some (.int x3), some (.int x4), some (.int (((σ (140 + x3.toNatClampNeg)) (x4 - x2).toNatClampNeg) ||| (1 <<< (x3 &&& 31))))]) dX6_narrow_27 (by decide) rfl rfl ?_
    refine q_aload_n dX6_narrow_29 rfl ?_
    refine q_getR dX6_narrow_30 fF_RX6_26 fl_123_6 ?_
    refine q_iload_n dX6_narrow_33 rfl ?_
    refine q_iconst (v := 1) dX6_narrow_34 (by decide) ?_
    refine q_iadd dX6_narrow_35 ?_
    obtain ⟨hi4, h⟩ := h
    refine q_aald dX6_narrow_36 ar2_152 (by decide) hi4 ?_
    refine q_iload dX6_narrow_37 rfl ?_
    refine q_aload_n dX6_narrow_39 rfl ?_
    refine q_getR dX6_narrow_40 fF_RX6_26 fl_123_6 ?_
    refine q_iload_n dX6_narrow_43 rfl ?_
    obtain ⟨hi5, h⟩ := h
    refine q_aald dX6_narrow_44 ar2_152 (by decide) hi5 ?_
    refine q_iload dX6_narrow_45 rfl ?_
    obtain ⟨hi6, h⟩ := h
    refine q_ialdX (v := ((σ (153 + x1.toNatClampNeg)) x4.toNatClampNeg)) dX6_narrow_47 (rw_152 hi5) hi6 rfl ?_
    refine q_iload dX6_narrow_48 rfl ?_
    refine q_iconst (v := (-1)) dX6_narrow_50 (by decide) ?_
    refine q_ixor dX6_narrow_51 ?_
    refine q_iand dX6_narrow_52 ?_
    refine q_iastX (F := upd (σ (153 + (x1 + 1).toNatClampNeg)) x4.toNatClampNeg (((σ (153 + x1.toNatClampNeg)) x4.toNatClampNeg) &&& ((((σ (140 + x3.toNatClampNeg)) (x4 - x2).toNatClampNeg) ||| (1 <<< (x3 &&& 31))) ^^^ (-1)))) dX6_narrow_53 (rw_152 hi4) hi6 rfl ?_
    refine q_iinc (L' := [some (.ref (g.2.1 123)), some (.int x1), some (.int x2), some (.int x3), some (.int (x4 + 1)), some (.int (((σ (140 + x3.toNatClampNeg)) (x4 - x2).toNatClampNeg) ||| (1 <<< (x3 &&& 31))))]) dX6_narrow_54 rfl (by decide) rfl rfl ?_
    refine q_goto (tgt := 5) dX6_narrow_57 (by decide) ?_
    exact q_wk (by simp [vt_le]) h

theorem s_X6_compare_0 (g : vt_GT) (σ : vt_Sg) (P : Option Value → vt_Sg → Prop) (p1 : Int32) (p2 : Int32)
  (h : ((σ 123 1) < p2 → P none (su (su (su σ 123 (upd (σ 123) 1 p2)) 123 (upd (upd (σ 123) 1 p2) 2 p1)) 124 (va_cpy (σ 125) (σ 124) 0 0 12))) ∧ (¬ (σ 123 1) < p2 → (¬ p2 = (σ 123 1) → P none σ) ∧ (p2 = (σ 123 1) → ((σ 123 2) ≤ p1 → P none σ) ∧ (¬ (σ 123 2) ≤ p1 → P none (su (su (su σ 123 (upd (σ 123) 1 p2)) 123 (upd (upd (σ 123) 1 p2) 2 p1)) 124 (va_cpy (σ 125) (σ 124) 0 0 12)))))) :
  TT g (vt_R 1) 0 0 D_X6_compare none 0 [some (.ref (g.2.1 123)), some (.int p1), some (.int p2)] [] σ P := by
  refine q_iload_n dX6_compare_0 rfl ?_
  refine q_aload_n dX6_compare_1 rfl ?_
  refine q_getX (x := (σ 123 1)) dX6_compare_2 fF_RX6_36 fl_123_1 rfl ?_
  refine q_icmp_gt (tgt := 24) dX6_compare_5 (by decide) (fun c1 => ?_) (fun c1 => ?_)
  · have h := h.1 c1
    refine q_aload_n dX6_compare_24 rfl ?_
    refine q_iload_n dX6_compare_25 rfl ?_
    refine q_putX (F := upd (σ 123) 1 p2) dX6_compare_26 fF_RX6_36 fP_6_1 fl_123_1 rfl ?_
    refine q_aload_n dX6_compare_29 rfl ?_
    refine q_iload_n dX6_compare_30 rfl ?_
    refine q_putX (F := upd (upd (σ 123) 1 p2) 2 p1) dX6_compare_31 fF_RX6_39 fP_6_2 fl_123_2 rfl ?_
    refine q_aload_n dX6_compare_34 rfl ?_
    refine q_getR dX6_compare_35 fF_RX6_15 fl_123_3 ?_
    refine q_iconst (v := 0) dX6_compare_38 (by decide) ?_
    refine q_aload_n dX6_compare_39 rfl ?_
    refine q_getR dX6_compare_40 fF_RX6_9 fl_123_0 ?_
    refine q_iconst (v := 0) dX6_compare_43 (by decide) ?_
    refine q_bipush (v := 12) dX6_compare_44 (by decide) ?_
    refine q_copyX (F := va_cpy (σ 125) (σ 124) 0 0 12) dX6_compare_46 mk_RX6_106 nat_copy sta_copy ini_sys ar_125 ar_124 (by decide) (by decide) (by decide) (by decide) (by decide) (by decide) (fun h => absurd h (by decide)) (by decide) rfl ?_
    exact q_vret rfl dX6_compare_49 h
  · have h := h.2 c1
    refine q_iload_n dX6_compare_8 rfl ?_
    refine q_aload_n dX6_compare_9 rfl ?_
    refine q_getX (x := (σ 123 1)) dX6_compare_10 fF_RX6_36 fl_123_1 rfl ?_
    refine q_icmp_ne (tgt := 49) dX6_compare_13 (by decide) (fun c2 => ?_) (fun c2 => ?_)
    · have h := h.1 c2
      exact q_vret rfl dX6_compare_49 h
    · have h := h.2 c2
      refine q_iload_n dX6_compare_16 rfl ?_
      refine q_aload_n dX6_compare_17 rfl ?_
      refine q_getX (x := (σ 123 2)) dX6_compare_18 fF_RX6_39 fl_123_2 rfl ?_
      refine q_icmp_ge (tgt := 49) dX6_compare_21 (by decide) (fun c3 => ?_) (fun c3 => ?_)
      · have h := h.1 c3
        exact q_vret rfl dX6_compare_49 h
      · have h := h.2 c3
        refine q_aload_n dX6_compare_24 rfl ?_
        refine q_iload_n dX6_compare_25 rfl ?_
        refine q_putX (F := upd (σ 123) 1 p2) dX6_compare_26 fF_RX6_36 fP_6_1 fl_123_1 rfl ?_
        refine q_aload_n dX6_compare_29 rfl ?_
        refine q_iload_n dX6_compare_30 rfl ?_
        refine q_putX (F := upd (upd (σ 123) 1 p2) 2 p1) dX6_compare_31 fF_RX6_39 fP_6_2 fl_123_2 rfl ?_
        refine q_aload_n dX6_compare_34 rfl ?_
        refine q_getR dX6_compare_35 fF_RX6_15 fl_123_3 ?_
        refine q_iconst (v := 0) dX6_compare_38 (by decide) ?_
        refine q_aload_n dX6_compare_39 rfl ?_
        refine q_getR dX6_compare_40 fF_RX6_9 fl_123_0 ?_
        refine q_iconst (v := 0) dX6_compare_43 (by decide) ?_
        refine q_bipush (v := 12) dX6_compare_44 (by decide) ?_
        refine q_copyX (F := va_cpy (σ 125) (σ 124) 0 0 12) dX6_compare_46 mk_RX6_106 nat_copy sta_copy ini_sys ar_125 ar_124 (by decide) (by decide) (by decide) (by decide) (by decide) (by decide) (fun h => absurd h (by decide)) (by decide) rfl ?_
        exact q_vret rfl dX6_compare_49 h

theorem s_X8_append_0 (g : vt_GT) (σ : vt_Sg) (P : Option Value → vt_Sg → Prop) (p1 : Int32)
  (h : TT g (vt_R 0) 0 0 D_X8_append none 3 [some (.ref (g.2.1 107)), some (.int p1), some (.int 24)] [] σ P) :
  TT g (vt_R 0) 0 0 D_X8_append none 0 [some (.ref (g.2.1 107)), some (.int p1), none] [] σ P := by
  refine q_bipush (v := 24) dX8_append_0 (by decide) ?_
  refine q_istore_n (L' := [some (.ref (g.2.1 107)), some (.int p1), some (.int 24)]) dX8_append_2 (by decide) rfl rfl ?_
  exact h

theorem s_X8_append_3 (g : vt_GT) (σ : vt_Sg) (P : Option Value → vt_Sg → Prop) (x1 : Int32) (x2 : Int32)
  (h : (x2 < 0 → P none σ) ∧ (¬ x2 < 0 → (132 ≤ (σ 107 0) → TT g (vt_R 0) 0 0 D_X8_append none 3 [some (.ref (g.2.1 107)), some (.int x1), some (.int (x2 + (-8)))] [] σ P) ∧ (¬ 132 ≤ (σ 107 0) → vp_in (σ 107 0) 132 ∧ (TT g (vt_R 0) 0 0 D_X8_append none 3 [some (.ref (g.2.1 107)), some (.int x1), some (.int (x2 + (-8)))] [] (su (su σ 110 (upd (σ 110) ((σ 107 0).toNatClampNeg) (vp_nar .byte ((x1 >>> (x2 &&& 31)).toInt8.toInt32)))) 107 (upd (σ 107) 0 ((σ 107 0) + 1))) P)))) :
  TT g (vt_R 0) 0 0 D_X8_append none 3 [some (.ref (g.2.1 107)), some (.int x1), some (.int x2)] [] σ P := by
  refine q_iload_n dX8_append_3 rfl ?_
  refine q_if_lt (tgt := 46) dX8_append_4 (by decide) (fun c1 => ?_) (fun c1 => ?_)
  · have h := h.1 c1
    exact q_vret rfl dX8_append_46 h
  · have h := h.2 c1
    refine q_aload_n dX8_append_7 rfl ?_
    refine q_getX (x := (σ 107 0)) dX8_append_8 fF_RX8_22 fl_107_0 rfl ?_
    refine q_sipush (v := 132) dX8_append_11 (by decide) ?_
    refine q_icmp_ge (tgt := 40) dX8_append_14 (by decide) (fun c2 => ?_) (fun c2 => ?_)
    · have h := h.1 c2
      refine q_iinc (L' := [some (.ref (g.2.1 107)), some (.int x1), some (.int (x2 + (-8)))]) dX8_append_40 rfl (by decide) rfl rfl ?_
      refine q_goto (tgt := 3) dX8_append_43 (by decide) ?_
      exact h
    · have h := h.2 c2
      refine q_aload_n dX8_append_17 rfl ?_
      refine q_getR dX8_append_18 fF_RX8_18 fl_107_4 ?_
      refine q_aload_n dX8_append_21 rfl ?_
      refine q_getX (x := (σ 107 0)) dX8_append_22 fF_RX8_22 fl_107_0 rfl ?_
      refine q_iload_n dX8_append_25 rfl ?_
      refine q_iload_n dX8_append_26 rfl ?_
      refine q_ishr dX8_append_27 ?_
      refine q_i2b dX8_append_28 ?_
      obtain ⟨hi3, h⟩ := h
      refine q_bastX (F := upd (σ 110) ((σ 107 0).toNatClampNeg) (vp_nar .byte ((x1 >>> (x2 &&& 31)).toInt8.toInt32))) dX8_append_29 ar_110 hi3 rfl ?_
      refine q_aload_n dX8_append_30 rfl ?_
      refine q_dup dX8_append_31 rfl ?_
      refine q_getX (x := (σ 107 0)) dX8_append_32 fF_RX8_22 fl_107_0 rfl ?_
      refine q_iconst (v := 1) dX8_append_35 (by decide) ?_
      refine q_iadd dX8_append_36 ?_
      refine q_putX (F := upd (σ 107) 0 ((σ 107 0) + 1)) dX8_append_37 fF_RX8_22 fP_8_0 fl_107_0 rfl ?_
      refine q_iinc (L' := [some (.ref (g.2.1 107)), some (.int x1), some (.int (x2 + (-8)))]) dX8_append_40 rfl (by decide) rfl rfl ?_
      refine q_goto (tgt := 3) dX8_append_43 (by decide) ?_
      exact h

theorem s_X8_findFault_0 (g : vt_GT) (σ : vt_Sg) (P : Option Value → vt_Sg → Prop) 
  (h : vt_Mv g 8 D_X8_advance [.ref (g.2.1 107)] (su (su (su (su σ 107 (upd (σ 107) 6 0)) 107 (upd (upd (σ 107) 6 0) 5 0)) 107 (upd (upd (upd (σ 107) 6 0) 5 0) 3 0)) 107 (upd (upd (upd (upd (σ 107) 6 0) 5 0) 3 0) 7 (-1))) (fun σ1 => TT g (vt_R 121) 0 0 D_X8_findFault none 26 [some (.ref (g.2.1 107)), some (.int 0)] [] σ1 P)) :
  TT g (vt_R 121) 0 0 D_X8_findFault none 0 [some (.ref (g.2.1 107)), none] [] σ P := by
  refine q_aload_n dX8_findFault_0 rfl ?_
  refine q_iconst (v := 0) dX8_findFault_1 (by decide) ?_
  refine q_putX (F := upd (σ 107) 6 0) dX8_findFault_2 fF_RX8_26 fP_8_6 fl_107_6 rfl ?_
  refine q_aload_n dX8_findFault_5 rfl ?_
  refine q_iconst (v := 0) dX8_findFault_6 (by decide) ?_
  refine q_putX (F := upd (upd (σ 107) 6 0) 5 0) dX8_findFault_7 fF_RX8_29 fP_8_5 fl_107_5 rfl ?_
  refine q_aload_n dX8_findFault_10 rfl ?_
  refine q_iconst (v := 0) dX8_findFault_11 (by decide) ?_
  refine q_putX (F := upd (upd (upd (σ 107) 6 0) 5 0) 3 0) dX8_findFault_12 fF_RX8_32 fP_8_3 fl_107_3 rfl ?_
  refine q_aload_n dX8_findFault_15 rfl ?_
  refine q_iconst (v := (-1)) dX8_findFault_16 (by decide) ?_
  refine q_putX (F := upd (upd (upd (upd (σ 107) 6 0) 5 0) 3 0) 7 (-1)) dX8_findFault_17 fF_RX8_35 fP_8_7 fl_107_7 rfl ?_
  refine q_aload_n dX8_findFault_20 rfl ?_
  refine q_cV (d' := 8) [] [] dX8_findFault_21 ok_X8_advance mk_RX8_38 rc_107 rfl (Nat.le_of_ble_eq_true rfl) (by first | decide | omega) h (fun v σ1 h => ?_)
  obtain ⟨rfl, h⟩ := h
  refine q_iconst (v := 0) dX8_findFault_24 (by decide) ?_
  refine q_istore_n (L' := [some (.ref (g.2.1 107)), some (.int 0)]) dX8_findFault_25 (by decide) rfl rfl ?_
  exact h

theorem s_X8_findFault_26 (g : vt_GT) (σ : vt_Sg) (P : Option Value → vt_Sg → Prop) (x1 : Int32)
  (h : (3 ≤ x1 → (¬ (σ 107 7) = (-1) → P (some (.int (σ 107 8))) σ) ∧ ((σ 107 7) = (-1) → P (some (.int (-1000000005))) σ)) ∧ (¬ 3 ≤ x1 → ((σ 107 7) = ((-5) - x1) → vt_Mv g 8 D_X8_advance [.ref (g.2.1 107)] σ (fun σ4 => vt_Mi g 120 D_X8_expression [.ref (g.2.1 107), .int 0, .int 0, .int 0] σ4 (fun r6 σ5 => (¬ r6 = 0 → vp_in x1 3 ∧ (TT g (vt_R 121) 0 0 D_X8_findFault none 26 [some (.ref (g.2.1 107)), some (.int (x1 + 1))] [] (su σ5 109 (upd (σ5 109) x1.toNatClampNeg (σ5 107 5))) P)) ∧ (r6 = 0 → P (some (.int (σ5 107 8))) σ5)))) ∧ (¬ (σ 107 7) = ((-5) - x1) → P (some (.int (σ 107 8))) σ))) :
  TT g (vt_R 121) 0 0 D_X8_findFault none 26 [some (.ref (g.2.1 107)), some (.int x1)] [] σ P := by
  refine q_iload_n dX8_findFault_26 rfl ?_
  refine q_iconst (v := 3) dX8_findFault_27 (by decide) ?_
  refine q_icmp_ge (tgt := 82) dX8_findFault_28 (by decide) (fun c1 => ?_) (fun c1 => ?_)
  · have h := h.1 c1
    refine q_aload_n dX8_findFault_82 rfl ?_
    refine q_getX (x := (σ 107 7)) dX8_findFault_83 fF_RX8_35 fl_107_7 rfl ?_
    refine q_iconst (v := (-1)) dX8_findFault_86 (by decide) ?_
    refine q_icmp_ne (tgt := 95) dX8_findFault_87 (by decide) (fun c2 => ?_) (fun c2 => ?_)
    · have h := h.1 c2
      refine q_aload_n dX8_findFault_95 rfl ?_
      refine q_getX (x := (σ 107 8)) dX8_findFault_96 fF_RX8_41 fl_107_8 rfl ?_
      exact q_iret .int rfl rfl dX8_findFault_99 h
    · have h := h.2 c2
      refine q_ldc dX8_findFault_90 ct_RX8_48 ?_
      refine q_goto (tgt := 99) dX8_findFault_92 (by decide) ?_
      exact q_iret .int rfl rfl dX8_findFault_99 h
  · have h := h.2 c1
    refine q_aload_n dX8_findFault_31 rfl ?_
    refine q_getX (x := (σ 107 7)) dX8_findFault_32 fF_RX8_35 fl_107_7 rfl ?_
    refine q_bipush (v := (-5)) dX8_findFault_35 (by decide) ?_
    refine q_iload_n dX8_findFault_37 rfl ?_
    refine q_isub dX8_findFault_38 ?_
    refine q_icmp_eq (tgt := 47) dX8_findFault_39 (by decide) (fun c3 => ?_) (fun c3 => ?_)
    · have h := h.1 c3
      refine q_aload_n dX8_findFault_47 rfl ?_
      refine q_cV (d' := 8) [] [] dX8_findFault_48 ok_X8_advance mk_RX8_38 rc_107 rfl (Nat.le_of_ble_eq_true rfl) (by first | decide | omega) h (fun v σ4 h => ?_)
      obtain ⟨rfl, h⟩ := h
      refine q_aload_n dX8_findFault_51 rfl ?_
      refine q_iconst (v := 0) dX8_findFault_52 (by decide) ?_
      refine q_iconst (v := 0) dX8_findFault_53 (by decide) ?_
      refine q_iconst (v := 0) dX8_findFault_54 (by decide) ?_
      refine q_cV (d' := 120) [.int 0, .int 0, .int 0] [] dX8_findFault_55 ok_X8_expression mk_RX8_44 rc_107 rfl (Nat.le_of_ble_eq_true rfl) (by first | decide | omega) h (fun v σ5 h => ?_)
      obtain ⟨r6, rfl, h⟩ := h
      refine q_if_ne (tgt := 66) dX8_findFault_58 (by decide) (fun c7 => ?_) (fun c7 => ?_)
      · have h := h.1 c7
        refine q_aload_n dX8_findFault_66 rfl ?_
        refine q_getR dX8_findFault_67 fF_RX8_15 fl_107_2 ?_
        refine q_iload_n dX8_findFault_70 rfl ?_
        refine q_aload_n dX8_findFault_71 rfl ?_
        refine q_getX (x := (σ5 107 5)) dX8_findFault_72 fF_RX8_29 fl_107_5 rfl ?_
        obtain ⟨hi8, h⟩ := h
        refine q_iastX (F := upd (σ5 109) x1.toNatClampNeg (σ5 107 5)) dX8_findFault_75 ar_109 hi8 rfl ?_
        refine q_iinc (L' := [some (.ref (g.2.1 107)), some (.int (x1 + 1))]) dX8_findFault_76 rfl (by decide) rfl rfl ?_
        refine q_goto (tgt := 26) dX8_findFault_79 (by decide) ?_
        exact h
      · have h := h.2 c7
        refine q_aload_n dX8_findFault_61 rfl ?_
        refine q_getX (x := (σ5 107 8)) dX8_findFault_62 fF_RX8_41 fl_107_8 rfl ?_
        exact q_iret .int rfl rfl dX8_findFault_65 h
    · have h := h.2 c3
      refine q_aload_n dX8_findFault_42 rfl ?_
      refine q_getX (x := (σ 107 8)) dX8_findFault_43 fF_RX8_41 fl_107_8 rfl ?_
      exact q_iret .int rfl rfl dX8_findFault_46 h

theorem s_X8_expression_0 (g : vt_GT) (σ : vt_Sg) (P : Option Value → vt_Sg → Prop) (d : Nat) (hd : 9 ≤ d) (p1 : Int32) (p2 : Int32) (p3 : Int32)
  (h : (p1 ≤ 4 → vt_Mi g d D_X8_expression [.ref (g.2.1 107), .int (p1 + 1), .int p2, .int p3] σ (fun r3 σ2 => (¬ r3 = 0 → (¬ p1 = 2 → TT g (vt_R (d + 1)) 0 0 D_X8_expression none 43 [some (.ref (g.2.1 107)), some (.int p1), some (.int p2), some (.int p3), some (.int 132), some (.int 0), none] [] σ2 P) ∧ (p1 = 2 → TT g (vt_R (d + 1)) 0 0 D_X8_expression none 43 [some (.ref (g.2.1 107)), some (.int p1), some (.int p2), some (.int p3), some (.int 1), some (.int 0), none] [] σ2 P)) ∧ (r3 = 0 → P (some (.int 0)) σ2))) ∧ (¬ p1 ≤ 4 → vt_Mi g d D_X8_part [.ref (g.2.1 107), .int p2, .int p3] σ (fun r7 σ6 => narrow .boolean (.int r7) = .int r7 ∧ P (some (.int r7)) σ6))) :
  TT g (vt_R (d + 1)) 0 0 D_X8_expression none 0 [some (.ref (g.2.1 107)), some (.int p1), some (.int p2), some (.int p3), none, none, none] [] σ P := by
  refine q_iload_n dX8_expression_0 rfl ?_
  refine q_iconst (v := 4) dX8_expression_1 (by decide) ?_
  refine q_icmp_le (tgt := 12) dX8_expression_2 (by decide) (fun c1 => ?_) (fun c1 => ?_)
  · have h := h.1 c1
    refine q_aload_n dX8_expression_12 rfl ?_
    refine q_iload_n dX8_expression_13 rfl ?_
    refine q_iconst (v := 1) dX8_expression_14 (by decide) ?_
    refine q_iadd dX8_expression_15 ?_
    refine q_iload_n dX8_expression_16 rfl ?_
    refine q_iload_n dX8_expression_17 rfl ?_
    refine q_cV (d' := d) [.int (p1 + 1), .int p2, .int p3] [] dX8_expression_18 ok_X8_expression mk_RX8_44 rc_107 rfl (Nat.le_of_ble_eq_true rfl) (by first | decide | omega) h (fun v σ2 h => ?_)
    obtain ⟨r3, rfl, h⟩ := h
    refine q_if_ne (tgt := 26) dX8_expression_21 (by decide) (fun c4 => ?_) (fun c4 => ?_)
    · have h := h.1 c4
      refine q_iload_n dX8_expression_26 rfl ?_
      refine q_iconst (v := 2) dX8_expression_27 (by decide) ?_
      refine q_icmp_ne (tgt := 35) dX8_expression_28 (by decide) (fun c5 => ?_) (fun c5 => ?_)
      · have h := h.1 c5
        refine q_sipush (v := 132) dX8_expression_35 (by decide) ?_
        refine q_istore (L' := [some (.ref (g.2.1 107)), some (.int p1), some (.int p2), some (.int p3), some (.int 132), none, none]) dX8_expression_38 (by decide) rfl rfl ?_
        refine q_iconst (v := 0) dX8_expression_40 (by decide) ?_
        refine q_istore (L' := [some (.ref (g.2.1 107)), some (.int p1), some (.int p2), some (.int p3), some (.int 132), some (.int 0), none]) dX8_expression_41 (by decide) rfl rfl ?_
        exact h
      · have h := h.2 c5
        refine q_iconst (v := 1) dX8_expression_31 (by decide) ?_
        refine q_goto (tgt := 38) dX8_expression_32 (by decide) ?_
        refine q_istore (L' := [some (.ref (g.2.1 107)), some (.int p1), some (.int p2), some (.int p3), some (.int 1), none, none]) dX8_expression_38 (by decide) rfl rfl ?_
        refine q_iconst (v := 0) dX8_expression_40 (by decide) ?_
        refine q_istore (L' := [some (.ref (g.2.1 107)), some (.int p1), some (.int p2), some (.int p3), some (.int 1), some (.int 0), none]) dX8_expression_41 (by decide) rfl rfl ?_
        exact h
    · have h := h.2 c4
      refine q_iconst (v := 0) dX8_expression_24 (by decide) ?_
      exact q_iret .boolean rfl rfl dX8_expression_25 h
  · have h := h.2 c1
    refine q_aload_n dX8_expression_5 rfl ?_
    refine q_iload_n dX8_expression_6 rfl ?_
    refine q_iload_n dX8_expression_7 rfl ?_
    refine q_cV (d' := d) [.int p2, .int p3] [] dX8_expression_8 ok_X8_part mk_RX8_49 rc_107 rfl (Nat.le_of_ble_eq_true rfl) (by first | decide | omega) h (fun v σ6 h => ?_)
    obtain ⟨r7, rfl, h⟩ := h
    exact q_iret .boolean rfl h.1 dX8_expression_11 h.2

theorem s_X8_expression_43 (g : vt_GT) (σ : vt_Sg) (P : Option Value → vt_Sg → Prop) (d : Nat) (hd : 9 ≤ d) (x1 : Int32) (x2 : Int32) (x3 : Int32) (x4 : Int32) (x5 : Int32)
  (h : (x4 ≤ x5 → P (some (.int 1)) σ) ∧ (¬ x4 ≤ x5 → (¬ (lvl (σ 107 7)) = x1 → P (some (.int 1)) σ) ∧ ((lvl (σ 107 7)) = x1 → vt_Mv g 8 D_X8_advance [.ref (g.2.1 107)] σ (fun σ3 => vt_Mi g d D_X8_expression [.ref (g.2.1 107), .int (x1 + 1), .int x2, .int x3] σ3 (fun r5 σ4 => (¬ r5 = 0 → vt_Mv g 0 D_X8_emit [.ref (g.2.1 107), .int (-(σ 107 7))] σ4 (fun σ7 => TT g (vt_R (d + 1)) 0 0 D_X8_expression none 43 [some (.ref (g.2.1 107)), some (.int x1), some (.int x2), some (.int x3), some (.int x4), some (.int (x5 + 1)), none] [] σ7 P)) ∧ (r5 = 0 → P (some (.int 0)) σ4)))))) :
  TT g (vt_R (d + 1)) 0 0 D_X8_expression none 43 [some (.ref (g.2.1 107)), some (.int x1), some (.int x2), some (.int x3), some (.int x4), some (.int x5), none] [] σ P := by
  refine q_iload dX8_expression_43 rfl ?_
  refine q_iload dX8_expression_45 rfl ?_
  refine q_icmp_ge (tgt := 98) dX8_expression_47 (by decide) (fun c1 => ?_) (fun c1 => ?_)
  · have h := h.1 c1
    refine q_iconst (v := 1) dX8_expression_98 (by decide) ?_
    exact q_iret .boolean rfl rfl dX8_expression_99 h
  · have h := h.2 c1
    refine q_aload_n dX8_expression_50 rfl ?_
    refine q_getX (x := (σ 107 7)) dX8_expression_51 fF_RX8_35 fl_107_7 rfl ?_
    refine q_cSi (e := (lvl (σ 107 7))) (d' := 0) [.int (σ 107 7)] [] dX8_expression_54 ok_X8_levelOf mk_RX8_53 rfl (Nat.le_of_ble_eq_true rfl) (by first | decide | omega) (fun Φ h9 => c_X8_levelOf (σ := σ) Φ h9) ?_
    refine q_iload_n dX8_expression_57 rfl ?_
    refine q_icmp_ne (tgt := 98) dX8_expression_58 (by decide) (fun c2 => ?_) (fun c2 => ?_)
    · have h := h.1 c2
      refine q_iconst (v := 1) dX8_expression_98 (by decide) ?_
      exact q_iret .boolean rfl rfl dX8_expression_99 h
    · have h := h.2 c2
      refine q_aload_n dX8_expression_61 rfl ?_
      refine q_getX (x := (σ 107 7)) dX8_expression_62 fF_RX8_35 fl_107_7 rfl ?_
      refine q_istore (L' := [some (.ref (g.2.1 107)), some (.int x1), some (.int x2), some (.int x3), some (.int x4), some (.int x5), some (.int (σ 107 7))]) dX8_expression_65 (by decide) rfl rfl ?_
      refine q_aload_n dX8_expression_67 rfl ?_
      refine q_cV (d' := 8) [] [] dX8_expression_68 ok_X8_advance mk_RX8_38 rc_107 rfl (Nat.le_of_ble_eq_true rfl) (by first | decide | omega) h (fun v σ3 h => ?_)
      obtain ⟨rfl, h⟩ := h
      refine q_aload_n dX8_expression_71 rfl ?_
      refine q_iload_n dX8_expression_72 rfl ?_
      refine q_iconst (v := 1) dX8_expression_73 (by decide) ?_
      refine q_iadd dX8_expression_74 ?_
      refine q_iload_n dX8_expression_75 rfl ?_
      refine q_iload_n dX8_expression_76 rfl ?_
      refine q_cV (d' := d) [.int (x1 + 1), .int x2, .int x3] [] dX8_expression_77 ok_X8_expression mk_RX8_44 rc_107 rfl (Nat.le_of_ble_eq_true rfl) (by first | decide | omega) h (fun v σ4 h => ?_)
      obtain ⟨r5, rfl, h⟩ := h
      refine q_if_ne (tgt := 85) dX8_expression_80 (by decide) (fun c6 => ?_) (fun c6 => ?_)
      · have h := h.1 c6
        refine q_aload_n dX8_expression_85 rfl ?_
        refine q_iload dX8_expression_86 rfl ?_
        refine q_ineg dX8_expression_88 ?_
        refine q_cV (d' := 0) [.int (-(σ 107 7))] [] dX8_expression_89 ok_X8_emit mk_RX8_57 rc_107 rfl (Nat.le_of_ble_eq_true rfl) (by first | decide | omega) h (fun v σ7 h => ?_)
        obtain ⟨rfl, h⟩ := h
        refine q_iinc (L' := [some (.ref (g.2.1 107)), some (.int x1), some (.int x2), some (.int x3), some (.int x4), some (.int (x5 + 1)), some (.int (σ 107 7))]) dX8_expression_92 rfl (by decide) rfl rfl ?_
        refine q_goto (tgt := 43) dX8_expression_95 (by decide) ?_
        exact q_wk (by simp [vt_le]) h
      · have h := h.2 c6
        refine q_iconst (v := 0) dX8_expression_83 (by decide) ?_
        exact q_iret .boolean rfl rfl dX8_expression_84 h

theorem s_X8_part_0 (g : vt_GT) (σ : vt_Sg) (P : Option Value → vt_Sg → Prop) (d : Nat) (hd : 9 ≤ d) (p1 : Int32) (p2 : Int32)
  (h : ((σ 107 7) = (-3) → vt_Mv g 0 D_X8_emit [.ref (g.2.1 107), .int (σ 107 9)] σ (fun σ2 => vt_Mv g 8 D_X8_advance [.ref (g.2.1 107)] (su σ2 107 (upd (σ2 107) 3 ((σ2 107 3) + 1))) (fun σ3 => P (some (.int 1)) σ3))) ∧ (¬ (σ 107 7) = (-3) → (¬ (σ 107 7) = (-4) → (¬ (σ 107 7) = 33 → (¬ (σ 107 7) = 40 → P (some (.int 0)) σ) ∧ ((σ 107 7) = 40 → (8 ≤ p1 → P (some (.int 0)) σ) ∧ (¬ 8 ≤ p1 → vt_Mv g 8 D_X8_advance [.ref (g.2.1 107)] σ (fun σ8 => vt_Mi g d D_X8_expression [.ref (g.2.1 107), .int 0, .int (p1 + 1), .int p2] σ8 (fun r10 σ9 => (r10 = 0 → P (some (.int 0)) σ9) ∧ (¬ r10 = 0 → ((σ9 107 7) = 41 → vt_Mv g 8 D_X8_advance [.ref (g.2.1 107)] σ9 (fun σ13 => P (some (.int 1)) σ13)) ∧ (¬ (σ9 107 7) = 41 → P (some (.int 0)) σ9))))))) ∧ ((σ 107 7) = 33 → (8 ≤ p2 → (¬ (σ 107 7) = 40 → P (some (.int 0)) σ) ∧ ((σ 107 7) = 40 → (8 ≤ p1 → P (some (.int 0)) σ) ∧ (¬ 8 ≤ p1 → vt_Mv g 8 D_X8_advance [.ref (g.2.1 107)] σ (fun σ17 => vt_Mi g d D_X8_expression [.ref (g.2.1 107), .int 0, .int (p1 + 1), .int p2] σ17 (fun r19 σ18 => (r19 = 0 → P (some (.int 0)) σ18) ∧ (¬ r19 = 0 → ((σ18 107 7) = 41 → vt_Mv g 8 D_X8_advance [.ref (g.2.1 107)] σ18 (fun σ22 => P (some (.int 1)) σ22)) ∧ (¬ (σ18 107 7) = 41 → P (some (.int 0)) σ18))))))) ∧ (¬ 8 ≤ p2 → vt_Mv g 8 D_X8_advance [.ref (g.2.1 107)] σ (fun σ23 => vt_Mi g d D_X8_part [.ref (g.2.1 107), .int p1, .int (p2 + 1)] σ23 (fun r25 σ24 => (¬ r25 = 0 → vt_Mv g 0 D_X8_emit [.ref (g.2.1 107), .int (-33)] σ24 (fun σ27 => P (some (.int 1)) σ27)) ∧ (r25 = 0 → P (some (.int 0)) σ24)))))) ∧ ((σ 107 7) = (-4) → vt_Mv g 0 D_X8_emit [.ref (g.2.1 107), .int (σ 107 9)] σ (fun σ28 => vt_Mv g 8 D_X8_advance [.ref (g.2.1 107)] (su σ28 107 (upd (σ28 107) 3 ((σ28 107 3) + 1))) (fun σ29 => P (some (.int 1)) σ29))))) :
  TT g (vt_R (d + 1)) 0 0 D_X8_part none 0 [some (.ref (g.2.1 107)), some (.int p1), some (.int p2)] [] σ P := by
  refine q_aload_n dX8_part_0 rfl ?_
  refine q_getX (x := (σ 107 7)) dX8_part_1 fF_RX8_35 fl_107_7 rfl ?_
  refine q_bipush (v := (-3)) dX8_part_4 (by decide) ?_
  refine q_icmp_eq (tgt := 18) dX8_part_6 (by decide) (fun c1 => ?_) (fun c1 => ?_)
  · have h := h.1 c1
    refine q_aload_n dX8_part_18 rfl ?_
    refine q_aload_n dX8_part_19 rfl ?_
    refine q_getX (x := (σ 107 9)) dX8_part_20 fF_RX8_61 fl_107_9 rfl ?_
    refine q_cV (d' := 0) [.int (σ 107 9)] [] dX8_part_23 ok_X8_emit mk_RX8_57 rc_107 rfl (Nat.le_of_ble_eq_true rfl) (by first | decide | omega) h (fun v σ2 h => ?_)
    obtain ⟨rfl, h⟩ := h
    refine q_aload_n dX8_part_26 rfl ?_
    refine q_dup dX8_part_27 rfl ?_
    refine q_getX (x := (σ2 107 3)) dX8_part_28 fF_RX8_32 fl_107_3 rfl ?_
    refine q_iconst (v := 1) dX8_part_31 (by decide) ?_
    refine q_iadd dX8_part_32 ?_
    refine q_putX (F := upd (σ2 107) 3 ((σ2 107 3) + 1)) dX8_part_33 fF_RX8_32 fP_8_3 fl_107_3 rfl ?_
    refine q_aload_n dX8_part_36 rfl ?_
    refine q_cV (d' := 8) [] [] dX8_part_37 ok_X8_advance mk_RX8_38 rc_107 rfl (Nat.le_of_ble_eq_true rfl) (by first | decide | omega) h (fun v σ3 h => ?_)
    obtain ⟨rfl, h⟩ := h
    refine q_iconst (v := 1) dX8_part_40 (by decide) ?_
    exact q_iret .boolean rfl rfl dX8_part_41 h
  · have h := h.2 c1
    refine q_aload_n dX8_part_9 rfl ?_
    refine q_getX (x := (σ 107 7)) dX8_part_10 fF_RX8_35 fl_107_7 rfl ?_
    refine q_bipush (v := (-4)) dX8_part_13 (by decide) ?_
    refine q_icmp_ne (tgt := 42) dX8_part_15 (by decide) (fun c4 => ?_) (fun c4 => ?_)
    · have h := h.1 c4
      refine q_aload_n dX8_part_42 rfl ?_
      refine q_getX (x := (σ 107 7)) dX8_part_43 fF_RX8_35 fl_107_7 rfl ?_
      refine q_bipush (v := 33) dX8_part_46 (by decide) ?_
      refine q_icmp_ne (tgt := 82) dX8_part_48 (by decide) (fun c5 => ?_) (fun c5 => ?_)
      · have h := h.1 c5
        refine q_aload_n dX8_part_82 rfl ?_
        refine q_getX (x := (σ 107 7)) dX8_part_83 fF_RX8_35 fl_107_7 rfl ?_
        refine q_bipush (v := 40) dX8_part_86 (by decide) ?_
        refine q_icmp_ne (tgt := 130) dX8_part_88 (by decide) (fun c6 => ?_) (fun c6 => ?_)
        · have h := h.1 c6
          refine q_iconst (v := 0) dX8_part_130 (by decide) ?_
          exact q_iret .boolean rfl rfl dX8_part_131 h
        · have h := h.2 c6
          refine q_iload_n dX8_part_91 rfl ?_
          refine q_bipush (v := 8) dX8_part_92 (by decide) ?_
          refine q_icmp_ge (tgt := 130) dX8_part_94 (by decide) (fun c7 => ?_) (fun c7 => ?_)
          · have h := h.1 c7
            refine q_iconst (v := 0) dX8_part_130 (by decide) ?_
            exact q_iret .boolean rfl rfl dX8_part_131 h
          · have h := h.2 c7
            refine q_aload_n dX8_part_97 rfl ?_
            refine q_cV (d' := 8) [] [] dX8_part_98 ok_X8_advance mk_RX8_38 rc_107 rfl (Nat.le_of_ble_eq_true rfl) (by first | decide | omega) h (fun v σ8 h => ?_)
            obtain ⟨rfl, h⟩ := h
            refine q_aload_n dX8_part_101 rfl ?_
            refine q_iconst (v := 0) dX8_part_102 (by decide) ?_
            refine q_iload_n dX8_part_103 rfl ?_
            refine q_iconst (v := 1) dX8_part_104 (by decide) ?_
            refine q_iadd dX8_part_105 ?_
            refine q_iload_n dX8_part_106 rfl ?_
            refine q_cV (d' := d) [.int 0, .int (p1 + 1), .int p2] [] dX8_part_107 ok_X8_expression mk_RX8_44 rc_107 rfl (Nat.le_of_ble_eq_true rfl) (by first | decide | omega) h (fun v σ9 h => ?_)
            obtain ⟨r10, rfl, h⟩ := h
            refine q_if_eq (tgt := 122) dX8_part_110 (by decide) (fun c11 => ?_) (fun c11 => ?_)
            · have h := h.1 c11
              refine q_iconst (v := 0) dX8_part_122 (by decide) ?_
              exact q_iret .boolean rfl rfl dX8_part_123 h
            · have h := h.2 c11
              refine q_aload_n dX8_part_113 rfl ?_
              refine q_getX (x := (σ9 107 7)) dX8_part_114 fF_RX8_35 fl_107_7 rfl ?_
              refine q_bipush (v := 41) dX8_part_117 (by decide) ?_
              refine q_icmp_eq (tgt := 124) dX8_part_119 (by decide) (fun c12 => ?_) (fun c12 => ?_)
              · have h := h.1 c12
                refine q_aload_n dX8_part_124 rfl ?_
                refine q_cV (d' := 8) [] [] dX8_part_125 ok_X8_advance mk_RX8_38 rc_107 rfl (Nat.le_of_ble_eq_true rfl) (by first | decide | omega) h (fun v σ13 h => ?_)
                obtain ⟨rfl, h⟩ := h
                refine q_iconst (v := 1) dX8_part_128 (by decide) ?_
                exact q_iret .boolean rfl rfl dX8_part_129 h
              · have h := h.2 c12
                refine q_iconst (v := 0) dX8_part_122 (by decide) ?_
                exact q_iret .boolean rfl rfl dX8_part_123 h
      · have h := h.2 c5
        refine q_iload_n dX8_part_51 rfl ?_
        refine q_bipush (v := 8) dX8_part_52 (by decide) ?_
        refine q_icmp_ge (tgt := 82) dX8_part_54 (by decide) (fun c14 => ?_) (fun c14 => ?_)
        · have h := h.1 c14
          refine q_aload_n dX8_part_82 rfl ?_
          refine q_getX (x := (σ 107 7)) dX8_part_83 fF_RX8_35 fl_107_7 rfl ?_
          refine q_bipush (v := 40) dX8_part_86 (by decide) ?_
          refine q_icmp_ne (tgt := 130) dX8_part_88 (by decide) (fun c15 => ?_) (fun c15 => ?_)
          · have h := h.1 c15
            refine q_iconst (v := 0) dX8_part_130 (by decide) ?_
            exact q_iret .boolean rfl rfl dX8_part_131 h
          · have h := h.2 c15
            refine q_iload_n dX8_part_91 rfl ?_
            refine q_bipush (v := 8) dX8_part_92 (by decide) ?_
            refine q_icmp_ge (tgt := 130) dX8_part_94 (by decide) (fun c16 => ?_) (fun c16 => ?_)
            · have h := h.1 c16
              refine q_iconst (v := 0) dX8_part_130 (by decide) ?_
              exact q_iret .boolean rfl rfl dX8_part_131 h
            · have h := h.2 c16
              refine q_aload_n dX8_part_97 rfl ?_
              refine q_cV (d' := 8) [] [] dX8_part_98 ok_X8_advance mk_RX8_38 rc_107 rfl (Nat.le_of_ble_eq_true rfl) (by first | decide | omega) h (fun v σ17 h => ?_)
              obtain ⟨rfl, h⟩ := h
              refine q_aload_n dX8_part_101 rfl ?_
              refine q_iconst (v := 0) dX8_part_102 (by decide) ?_
              refine q_iload_n dX8_part_103 rfl ?_
              refine q_iconst (v := 1) dX8_part_104 (by decide) ?_
              refine q_iadd dX8_part_105 ?_
              refine q_iload_n dX8_part_106 rfl ?_
              refine q_cV (d' := d) [.int 0, .int (p1 + 1), .int p2] [] dX8_part_107 ok_X8_expression mk_RX8_44 rc_107 rfl (Nat.le_of_ble_eq_true rfl) (by first | decide | omega) h (fun v σ18 h => ?_)
              obtain ⟨r19, rfl, h⟩ := h
              refine q_if_eq (tgt := 122) dX8_part_110 (by decide) (fun c20 => ?_) (fun c20 => ?_)
              · have h := h.1 c20
                refine q_iconst (v := 0) dX8_part_122 (by decide) ?_
                exact q_iret .boolean rfl rfl dX8_part_123 h
              · have h := h.2 c20
                refine q_aload_n dX8_part_113 rfl ?_
                refine q_getX (x := (σ18 107 7)) dX8_part_114 fF_RX8_35 fl_107_7 rfl ?_
                refine q_bipush (v := 41) dX8_part_117 (by decide) ?_
                refine q_icmp_eq (tgt := 124) dX8_part_119 (by decide) (fun c21 => ?_) (fun c21 => ?_)
                · have h := h.1 c21
                  refine q_aload_n dX8_part_124 rfl ?_
                  refine q_cV (d' := 8) [] [] dX8_part_125 ok_X8_advance mk_RX8_38 rc_107 rfl (Nat.le_of_ble_eq_true rfl) (by first | decide | omega) h (fun v σ22 h => ?_)
                  obtain ⟨rfl, h⟩ := h
                  refine q_iconst (v := 1) dX8_part_128 (by decide) ?_
                  exact q_iret .boolean rfl rfl dX8_part_129 h
                · have h := h.2 c21
                  refine q_iconst (v := 0) dX8_part_122 (by decide) ?_
                  exact q_iret .boolean rfl rfl dX8_part_123 h
        · have h := h.2 c14
          refine q_aload_n dX8_part_57 rfl ?_
          refine q_cV (d' := 8) [] [] dX8_part_58 ok_X8_advance mk_RX8_38 rc_107 rfl (Nat.le_of_ble_eq_true rfl) (by first | decide | omega) h (fun v σ23 h => ?_)
          obtain ⟨rfl, h⟩ := h
          refine q_aload_n dX8_part_61 rfl ?_
          refine q_iload_n dX8_part_62 rfl ?_
          refine q_iload_n dX8_part_63 rfl ?_
          refine q_iconst (v := 1) dX8_part_64 (by decide) ?_
          refine q_iadd dX8_part_65 ?_
          refine q_cV (d' := d) [.int p1, .int (p2 + 1)] [] dX8_part_66 ok_X8_part mk_RX8_49 rc_107 rfl (Nat.le_of_ble_eq_true rfl) (by first | decide | omega) h (fun v σ24 h => ?_)
          obtain ⟨r25, rfl, h⟩ := h
          refine q_if_ne (tgt := 74) dX8_part_69 (by decide) (fun c26 => ?_) (fun c26 => ?_)
          · have h := h.1 c26
            refine q_aload_n dX8_part_74 rfl ?_
            refine q_bipush (v := (-33)) dX8_part_75 (by decide) ?_
            refine q_cV (d' := 0) [.int (-33)] [] dX8_part_77 ok_X8_emit mk_RX8_57 rc_107 rfl (Nat.le_of_ble_eq_true rfl) (by first | decide | omega) h (fun v σ27 h => ?_)
            obtain ⟨rfl, h⟩ := h
            refine q_iconst (v := 1) dX8_part_80 (by decide) ?_
            exact q_iret .boolean rfl rfl dX8_part_81 h
          · have h := h.2 c26
            refine q_iconst (v := 0) dX8_part_72 (by decide) ?_
            exact q_iret .boolean rfl rfl dX8_part_73 h
    · have h := h.2 c4
      refine q_aload_n dX8_part_18 rfl ?_
      refine q_aload_n dX8_part_19 rfl ?_
      refine q_getX (x := (σ 107 9)) dX8_part_20 fF_RX8_61 fl_107_9 rfl ?_
      refine q_cV (d' := 0) [.int (σ 107 9)] [] dX8_part_23 ok_X8_emit mk_RX8_57 rc_107 rfl (Nat.le_of_ble_eq_true rfl) (by first | decide | omega) h (fun v σ28 h => ?_)
      obtain ⟨rfl, h⟩ := h
      refine q_aload_n dX8_part_26 rfl ?_
      refine q_dup dX8_part_27 rfl ?_
      refine q_getX (x := (σ28 107 3)) dX8_part_28 fF_RX8_32 fl_107_3 rfl ?_
      refine q_iconst (v := 1) dX8_part_31 (by decide) ?_
      refine q_iadd dX8_part_32 ?_
      refine q_putX (F := upd (σ28 107) 3 ((σ28 107 3) + 1)) dX8_part_33 fF_RX8_32 fP_8_3 fl_107_3 rfl ?_
      refine q_aload_n dX8_part_36 rfl ?_
      refine q_cV (d' := 8) [] [] dX8_part_37 ok_X8_advance mk_RX8_38 rc_107 rfl (Nat.le_of_ble_eq_true rfl) (by first | decide | omega) h (fun v σ29 h => ?_)
      obtain ⟨rfl, h⟩ := h
      refine q_iconst (v := 1) dX8_part_40 (by decide) ?_
      exact q_iret .boolean rfl rfl dX8_part_41 h

theorem s_X8_emit_0 (g : vt_GT) (σ : vt_Sg) (P : Option Value → vt_Sg → Prop) (p1 : Int32)
  (h : (132 ≤ (σ 107 5) → P none σ) ∧ (¬ 132 ≤ (σ 107 5) → vp_in (σ 107 5) 132 ∧ (P none (su (su σ 108 (upd (σ 108) ((σ 107 5).toNatClampNeg) p1)) 107 (upd (σ 107) 5 ((σ 107 5) + 1)))))) :
  TT g (vt_R 0) 0 0 D_X8_emit none 0 [some (.ref (g.2.1 107)), some (.int p1)] [] σ P := by
  refine q_aload_n dX8_emit_0 rfl ?_
  refine q_getX (x := (σ 107 5)) dX8_emit_1 fF_RX8_29 fl_107_5 rfl ?_
  refine q_sipush (v := 132) dX8_emit_4 (by decide) ?_
  refine q_icmp_ge (tgt := 30) dX8_emit_7 (by decide) (fun c1 => ?_) (fun c1 => ?_)
  · have h := h.1 c1
    exact q_vret rfl dX8_emit_30 h
  · have h := h.2 c1
    refine q_aload_n dX8_emit_10 rfl ?_
    refine q_getR dX8_emit_11 fF_RX8_9 fl_107_1 ?_
    refine q_aload_n dX8_emit_14 rfl ?_
    refine q_getX (x := (σ 107 5)) dX8_emit_15 fF_RX8_29 fl_107_5 rfl ?_
    refine q_iload_n dX8_emit_18 rfl ?_
    obtain ⟨hi2, h⟩ := h
    refine q_iastX (F := upd (σ 108) ((σ 107 5).toNatClampNeg) p1) dX8_emit_19 ar_108 hi2 rfl ?_
    refine q_aload_n dX8_emit_20 rfl ?_
    refine q_dup dX8_emit_21 rfl ?_
    refine q_getX (x := (σ 107 5)) dX8_emit_22 fF_RX8_29 fl_107_5 rfl ?_
    refine q_iconst (v := 1) dX8_emit_25 (by decide) ?_
    refine q_iadd dX8_emit_26 ?_
    refine q_putX (F := upd (σ 107) 5 ((σ 107 5) + 1)) dX8_emit_27 fF_RX8_29 fP_8_5 fl_107_5 rfl ?_
    exact q_vret rfl dX8_emit_30 h

theorem s_X8_advance_0 (g : vt_GT) (σ : vt_Sg) (P : Option Value → vt_Sg → Prop) 
  (h : ((-3) < (σ 107 7) → TT g (vt_R 8) 0 0 D_X8_advance none 20 [some (.ref (g.2.1 107)), some (.int (σ 107 6)), some (.int 0), none, none, none] [] σ P) ∧ (¬ (-3) < (σ 107 7) → TT g (vt_R 8) 0 0 D_X8_advance none 20 [some (.ref (g.2.1 107)), some (.int (σ 107 6)), some (.int 1), none, none, none] [] σ P)) :
  TT g (vt_R 8) 0 0 D_X8_advance none 0 [some (.ref (g.2.1 107)), none, none, none, none, none] [] σ P := by
  refine q_aload_n dX8_advance_0 rfl ?_
  refine q_getX (x := (σ 107 6)) dX8_advance_1 fF_RX8_26 fl_107_6 rfl ?_
  refine q_istore_n (L' := [some (.ref (g.2.1 107)), some (.int (σ 107 6)), none, none, none, none]) dX8_advance_4 (by decide) rfl rfl ?_
  refine q_aload_n dX8_advance_5 rfl ?_
  refine q_getX (x := (σ 107 7)) dX8_advance_6 fF_RX8_35 fl_107_7 rfl ?_
  refine q_bipush (v := (-3)) dX8_advance_9 (by decide) ?_
  refine q_icmp_gt (tgt := 18) dX8_advance_11 (by decide) (fun c1 => ?_) (fun c1 => ?_)
  · have h := h.1 c1
    refine q_iconst (v := 0) dX8_advance_18 (by decide) ?_
    refine q_istore_n (L' := [some (.ref (g.2.1 107)), some (.int (σ 107 6)), some (.int 0), none, none, none]) dX8_advance_19 (by decide) rfl rfl ?_
    exact h
  · have h := h.2 c1
    refine q_iconst (v := 1) dX8_advance_14 (by decide) ?_
    refine q_goto (tgt := 19) dX8_advance_15 (by decide) ?_
    refine q_istore_n (L' := [some (.ref (g.2.1 107)), some (.int (σ 107 6)), some (.int 1), none, none, none]) dX8_advance_19 (by decide) rfl rfl ?_
    exact h

theorem s_X8_advance_20 (g : vt_GT) (σ : vt_Sg) (P : Option Value → vt_Sg → Prop) (x1 : Int32) (x2 : Int32)
  (h : ((σ 107 0) ≤ (σ 107 6) → ((σ 107 6) < (σ 107 0) → vp_in (σ 107 6) 132 ∧ (((¬ ((σ 110 (σ 107 6).toNatClampNeg) &&& 255) < 48 ∧ ¬ 57 < ((σ 110 (σ 107 6).toNatClampNeg) &&& 255)) → TT g (vt_R 8) 0 0 D_X8_advance none 131 [some (.ref (g.2.1 107)), some (.int x1), some (.int x2), some (.int ((σ 110 (σ 107 6).toNatClampNeg) &&& 255)), some (.int 1), none] [] (su σ 107 (upd (σ 107) 8 (σ 107 6))) P) ∧ (¬ (¬ ((σ 110 (σ 107 6).toNatClampNeg) &&& 255) < 48 ∧ ¬ 57 < ((σ 110 (σ 107 6).toNatClampNeg) &&& 255)) → ((¬ ((σ 110 (σ 107 6).toNatClampNeg) &&& 255) < 97 ∧ ¬ 122 < ((σ 110 (σ 107 6).toNatClampNeg) &&& 255)) → TT g (vt_R 8) 0 0 D_X8_advance none 131 [some (.ref (g.2.1 107)), some (.int x1), some (.int x2), some (.int ((σ 110 (σ 107 6).toNatClampNeg) &&& 255)), some (.int 0), none] [] (su σ 107 (upd (σ 107) 8 (σ 107 6))) P) ∧ (¬ (¬ ((σ 110 (σ 107 6).toNatClampNeg) &&& 255) < 97 ∧ ¬ 122 < ((σ 110 (σ 107 6).toNatClampNeg) &&& 255)) → P none (su (su (su σ 107 (upd (σ 107) 8 (σ 107 6))) 107 (upd (upd (σ 107) 8 (σ 107 6)) 6 ((σ 107 6) + 1))) 107 (upd (upd (upd (σ 107) 8 (σ 107 6)) 6 ((σ 107 6) + 1)) 7 ((σ 110 (σ 107 6).toNatClampNeg) &&& 255))))))) ∧ (¬ (σ 107 6) < (σ 107 0) → P none (su (su σ 107 (upd (σ 107) 8 (σ 107 6))) 107 (upd (upd (σ 107) 8 (σ 107 6)) 7 (-1))))) ∧ (¬ (σ 107 0) ≤ (σ 107 6) → vp_in (σ 107 6) 132 ∧ ((¬ (σ 110 (σ 107 6).toNatClampNeg) = 32 → ((σ 107 6) < (σ 107 0) → ((¬ ((σ 110 (σ 107 6).toNatClampNeg) &&& 255) < 48 ∧ ¬ 57 < ((σ 110 (σ 107 6).toNatClampNeg) &&& 255)) → TT g (vt_R 8) 0 0 D_X8_advance none 131 [some (.ref (g.2.1 107)), some (.int x1), some (.int x2), some (.int ((σ 110 (σ 107 6).toNatClampNeg) &&& 255)), some (.int 1), none] [] (su σ 107 (upd (σ 107) 8 (σ 107 6))) P) ∧ (¬ (¬ ((σ 110 (σ 107 6).toNatClampNeg) &&& 255) < 48 ∧ ¬ 57 < ((σ 110 (σ 107 6).toNatClampNeg) &&& 255)) → ((¬ ((σ 110 (σ 107 6).toNatClampNeg) &&& 255) < 97 ∧ ¬ 122 < ((σ 110 (σ 107 6).toNatClampNeg) &&& 255)) → TT g (vt_R 8) 0 0 D_X8_advance none 131 [some (.ref (g.2.1 107)), some (.int x1), some (.int x2), some (.int ((σ 110 (σ 107 6).toNatClampNeg) &&& 255)), some (.int 0), none] [] (su σ 107 (upd (σ 107) 8 (σ 107 6))) P) ∧ (¬ (¬ ((σ 110 (σ 107 6).toNatClampNeg) &&& 255) < 97 ∧ ¬ 122 < ((σ 110 (σ 107 6).toNatClampNeg) &&& 255)) → P none (su (su (su σ 107 (upd (σ 107) 8 (σ 107 6))) 107 (upd (upd (σ 107) 8 (σ 107 6)) 6 ((σ 107 6) + 1))) 107 (upd (upd (upd (σ 107) 8 (σ 107 6)) 6 ((σ 107 6) + 1)) 7 ((σ 110 (σ 107 6).toNatClampNeg) &&& 255)))))) ∧ (¬ (σ 107 6) < (σ 107 0) → P none (su (su σ 107 (upd (σ 107) 8 (σ 107 6))) 107 (upd (upd (σ 107) 8 (σ 107 6)) 7 (-1))))) ∧ ((σ 110 (σ 107 6).toNatClampNeg) = 32 → TT g (vt_R 8) 0 0 D_X8_advance none 20 [some (.ref (g.2.1 107)), some (.int x1), some (.int x2), none, none, none] [] (su σ 107 (upd (σ 107) 6 ((σ 107 6) + 1))) P)))) :
  TT g (vt_R 8) 0 0 D_X8_advance none 20 [some (.ref (g.2.1 107)), some (.int x1), some (.int x2), none, none, none] [] σ P := by
  refine q_aload_n dX8_advance_20 rfl ?_
  refine q_getX (x := (σ 107 6)) dX8_advance_21 fF_RX8_26 fl_107_6 rfl ?_
  refine q_aload_n dX8_advance_24 rfl ?_
  refine q_getX (x := (σ 107 0)) dX8_advance_25 fF_RX8_22 fl_107_0 rfl ?_
  refine q_icmp_ge (tgt := 58) dX8_advance_28 (by decide) (fun c1 => ?_) (fun c1 => ?_)
  · have h := h.1 c1
    refine q_aload_n dX8_advance_58 rfl ?_
    refine q_aload_n dX8_advance_59 rfl ?_
    refine q_getX (x := (σ 107 6)) dX8_advance_60 fF_RX8_26 fl_107_6 rfl ?_
    refine q_putX (F := upd (σ 107) 8 (σ 107 6)) dX8_advance_63 fF_RX8_41 fP_8_8 fl_107_8 rfl ?_
    refine q_aload_n dX8_advance_66 rfl ?_
    refine q_getX (x := (σ 107 6)) dX8_advance_67 fF_RX8_26 fl_107_6 rfl ?_
    refine q_aload_n dX8_advance_70 rfl ?_
    refine q_getX (x := (σ 107 0)) dX8_advance_71 fF_RX8_22 fl_107_0 rfl ?_
    refine q_icmp_lt (tgt := 83) dX8_advance_74 (by decide) (fun c2 => ?_) (fun c2 => ?_)
    · have h := h.1 c2
      refine q_aload_n dX8_advance_83 rfl ?_
      refine q_getR dX8_advance_84 fF_RX8_18 fl_107_4 ?_
      refine q_aload_n dX8_advance_87 rfl ?_
      refine q_getX (x := (σ 107 6)) dX8_advance_88 fF_RX8_26 fl_107_6 rfl ?_
      obtain ⟨hi3, h⟩ := h
      refine q_baldX (v := (σ 110 (σ 107 6).toNatClampNeg)) dX8_advance_91 ar_110 hi3 rfl ?_
      refine q_sipush (v := 255) dX8_advance_92 (by decide) ?_
      refine q_iand dX8_advance_95 ?_
      refine q_istore_n (L' := [some (.ref (g.2.1 107)), some (.int x1), some (.int x2), some (.int ((σ 110 (σ 107 6).toNatClampNeg) &&& 255)), none, none]) dX8_advance_96 (by decide) rfl rfl ?_
      refine q_iload_n dX8_advance_97 rfl ?_
      refine q_cSb (C := ¬ ((σ 110 (σ 107 6).toNatClampNeg) &&& 255) < 48 ∧ ¬ 57 < ((σ 110 (σ 107 6).toNatClampNeg) &&& 255)) (d' := 0) [.int ((σ 110 (σ 107 6).toNatClampNeg) &&& 255)] [] dX8_advance_98 ok_X8_isDigit mk_RX8_64 rfl (Nat.le_of_ble_eq_true rfl) (by first | decide | omega) (fun Φ h9 => c_X8_isDigit (σ := su σ 107 (upd (σ 107) 8 (σ 107 6))) Φ h9) (fun c4 => ?_) (fun c4 => ?_)
      · have h := h.1 c4
        refine q_istore (L' := [some (.ref (g.2.1 107)), some (.int x1), some (.int x2), some (.int ((σ 110 (σ 107 6).toNatClampNeg) &&& 255)), some (.int 1), none]) dX8_advance_101 (by decide) rfl rfl ?_
        refine q_iload dX8_advance_103 rfl ?_
        refine q_if_ne (tgt := 131) dX8_advance_105 (by decide) (fun _ => ?_) (fun c => absurd c (by decide))
        exact h
      · have h := h.2 c4
        refine q_istore (L' := [some (.ref (g.2.1 107)), some (.int x1), some (.int x2), some (.int ((σ 110 (σ 107 6).toNatClampNeg) &&& 255)), some (.int 0), none]) dX8_advance_101 (by decide) rfl rfl ?_
        refine q_iload dX8_advance_103 rfl ?_
        refine q_if_ne (tgt := 131) dX8_advance_105 (by decide) (fun c => absurd rfl c) (fun _ => ?_)
        refine q_iload_n dX8_advance_108 rfl ?_
        refine q_cSb (C := ¬ ((σ 110 (σ 107 6).toNatClampNeg) &&& 255) < 97 ∧ ¬ 122 < ((σ 110 (σ 107 6).toNatClampNeg) &&& 255)) (d' := 0) [.int ((σ 110 (σ 107 6).toNatClampNeg) &&& 255)] [] dX8_advance_109 ok_X8_isLetter mk_RX8_68 rfl (Nat.le_of_ble_eq_true rfl) (by first | decide | omega) (fun Φ h9 => c_X8_isLetter (σ := su σ 107 (upd (σ 107) 8 (σ 107 6))) Φ h9) (fun c5 => ?_) (fun c5 => ?_)
        · have h := h.1 c5
          refine q_if_ne (tgt := 131) dX8_advance_112 (by decide) (fun _ => ?_) (fun c => absurd c (by decide))
          exact h
        · have h := h.2 c5
          refine q_if_ne (tgt := 131) dX8_advance_112 (by decide) (fun c => absurd rfl c) (fun _ => ?_)
          refine q_aload_n dX8_advance_115 rfl ?_
          refine q_dup dX8_advance_116 rfl ?_
          refine q_getX (x := (σ 107 6)) dX8_advance_117 fF_RX8_26 fl_107_6 rfl ?_
          refine q_iconst (v := 1) dX8_advance_120 (by decide) ?_
          refine q_iadd dX8_advance_121 ?_
          refine q_putX (F := upd (upd (σ 107) 8 (σ 107 6)) 6 ((σ 107 6) + 1)) dX8_advance_122 fF_RX8_26 fP_8_6 fl_107_6 rfl ?_
          refine q_aload_n dX8_advance_125 rfl ?_
          refine q_iload_n dX8_advance_126 rfl ?_
          refine q_putX (F := upd (upd (upd (σ 107) 8 (σ 107 6)) 6 ((σ 107 6) + 1)) 7 ((σ 110 (σ 107 6).toNatClampNeg) &&& 255)) dX8_advance_127 fF_RX8_35 fP_8_7 fl_107_7 rfl ?_
          exact q_vret rfl dX8_advance_130 h
    · have h := h.2 c2
      refine q_aload_n dX8_advance_77 rfl ?_
      refine q_iconst (v := (-1)) dX8_advance_78 (by decide) ?_
      refine q_putX (F := upd (upd (σ 107) 8 (σ 107 6)) 7 (-1)) dX8_advance_79 fF_RX8_35 fP_8_7 fl_107_7 rfl ?_
      exact q_vret rfl dX8_advance_82 h
  · have h := h.2 c1
    refine q_aload_n dX8_advance_31 rfl ?_
    refine q_getR dX8_advance_32 fF_RX8_18 fl_107_4 ?_
    refine q_aload_n dX8_advance_35 rfl ?_
    refine q_getX (x := (σ 107 6)) dX8_advance_36 fF_RX8_26 fl_107_6 rfl ?_
    obtain ⟨hi6, h⟩ := h
    refine q_baldX (v := (σ 110 (σ 107 6).toNatClampNeg)) dX8_advance_39 ar_110 hi6 rfl ?_
    refine q_bipush (v := 32) dX8_advance_40 (by decide) ?_
    refine q_icmp_ne (tgt := 58) dX8_advance_42 (by decide) (fun c7 => ?_) (fun c7 => ?_)
    · have h := h.1 c7
      refine q_aload_n dX8_advance_58 rfl ?_
      refine q_aload_n dX8_advance_59 rfl ?_
      refine q_getX (x := (σ 107 6)) dX8_advance_60 fF_RX8_26 fl_107_6 rfl ?_
      refine q_putX (F := upd (σ 107) 8 (σ 107 6)) dX8_advance_63 fF_RX8_41 fP_8_8 fl_107_8 rfl ?_
      refine q_aload_n dX8_advance_66 rfl ?_
      refine q_getX (x := (σ 107 6)) dX8_advance_67 fF_RX8_26 fl_107_6 rfl ?_
      refine q_aload_n dX8_advance_70 rfl ?_
      refine q_getX (x := (σ 107 0)) dX8_advance_71 fF_RX8_22 fl_107_0 rfl ?_
      refine q_icmp_lt (tgt := 83) dX8_advance_74 (by decide) (fun c8 => ?_) (fun c8 => ?_)
      · have h := h.1 c8
        refine q_aload_n dX8_advance_83 rfl ?_
        refine q_getR dX8_advance_84 fF_RX8_18 fl_107_4 ?_
        refine q_aload_n dX8_advance_87 rfl ?_
        refine q_getX (x := (σ 107 6)) dX8_advance_88 fF_RX8_26 fl_107_6 rfl ?_
        refine q_baldX (v := (σ 110 (σ 107 6).toNatClampNeg)) dX8_advance_91 ar_110 hi6 rfl ?_
        refine q_sipush (v := 255) dX8_advance_92 (by decide) ?_
        refine q_iand dX8_advance_95 ?_
        refine q_istore_n (L' := [some (.ref (g.2.1 107)), some (.int x1), some (.int x2), some (.int ((σ 110 (σ 107 6).toNatClampNeg) &&& 255)), none, none]) dX8_advance_96 (by decide) rfl rfl ?_
        refine q_iload_n dX8_advance_97 rfl ?_
        refine q_cSb (C := ¬ ((σ 110 (σ 107 6).toNatClampNeg) &&& 255) < 48 ∧ ¬ 57 < ((σ 110 (σ 107 6).toNatClampNeg) &&& 255)) (d' := 0) [.int ((σ 110 (σ 107 6).toNatClampNeg) &&& 255)] [] dX8_advance_98 ok_X8_isDigit mk_RX8_64 rfl (Nat.le_of_ble_eq_true rfl) (by first | decide | omega) (fun Φ h9 => c_X8_isDigit (σ := su σ 107 (upd (σ 107) 8 (σ 107 6))) Φ h9) (fun c9 => ?_) (fun c9 => ?_)
        · have h := h.1 c9
          refine q_istore (L' := [some (.ref (g.2.1 107)), some (.int x1), some (.int x2), some (.int ((σ 110 (σ 107 6).toNatClampNeg) &&& 255)), some (.int 1), none]) dX8_advance_101 (by decide) rfl rfl ?_
          refine q_iload dX8_advance_103 rfl ?_
          refine q_if_ne (tgt := 131) dX8_advance_105 (by decide) (fun _ => ?_) (fun c => absurd c (by decide))
          exact h
        · have h := h.2 c9
          refine q_istore (L' := [some (.ref (g.2.1 107)), some (.int x1), some (.int x2), some (.int ((σ 110 (σ 107 6).toNatClampNeg) &&& 255)), some (.int 0), none]) dX8_advance_101 (by decide) rfl rfl ?_
          refine q_iload dX8_advance_103 rfl ?_
          refine q_if_ne (tgt := 131) dX8_advance_105 (by decide) (fun c => absurd rfl c) (fun _ => ?_)
          refine q_iload_n dX8_advance_108 rfl ?_
          refine q_cSb (C := ¬ ((σ 110 (σ 107 6).toNatClampNeg) &&& 255) < 97 ∧ ¬ 122 < ((σ 110 (σ 107 6).toNatClampNeg) &&& 255)) (d' := 0) [.int ((σ 110 (σ 107 6).toNatClampNeg) &&& 255)] [] dX8_advance_109 ok_X8_isLetter mk_RX8_68 rfl (Nat.le_of_ble_eq_true rfl) (by first | decide | omega) (fun Φ h9 => c_X8_isLetter (σ := su σ 107 (upd (σ 107) 8 (σ 107 6))) Φ h9) (fun c10 => ?_) (fun c10 => ?_)
          · have h := h.1 c10
            refine q_if_ne (tgt := 131) dX8_advance_112 (by decide) (fun _ => ?_) (fun c => absurd c (by decide))
            exact h
          · have h := h.2 c10
            refine q_if_ne (tgt := 131) dX8_advance_112 (by decide) (fun c => absurd rfl c) (fun _ => ?_)
            refine q_aload_n dX8_advance_115 rfl ?_
            refine q_dup dX8_advance_116 rfl ?_
            refine q_getX (x := (σ 107 6)) dX8_advance_117 fF_RX8_26 fl_107_6 rfl ?_
            refine q_iconst (v := 1) dX8_advance_120 (by decide) ?_
            refine q_iadd dX8_advance_121 ?_
            refine q_putX (F := upd (upd (σ 107) 8 (σ 107 6)) 6 ((σ 107 6) + 1)) dX8_advance_122 fF_RX8_26 fP_8_6 fl_107_6 rfl ?_
            refine q_aload_n dX8_advance_125 rfl ?_
            refine q_iload_n dX8_advance_126 rfl ?_
            refine q_putX (F := upd (upd (upd (σ 107) 8 (σ 107 6)) 6 ((σ 107 6) + 1)) 7 ((σ 110 (σ 107 6).toNatClampNeg) &&& 255)) dX8_advance_127 fF_RX8_35 fP_8_7 fl_107_7 rfl ?_
            exact q_vret rfl dX8_advance_130 h
      · have h := h.2 c8
        refine q_aload_n dX8_advance_77 rfl ?_
        refine q_iconst (v := (-1)) dX8_advance_78 (by decide) ?_
        refine q_putX (F := upd (upd (σ 107) 8 (σ 107 6)) 7 (-1)) dX8_advance_79 fF_RX8_35 fP_8_7 fl_107_7 rfl ?_
        exact q_vret rfl dX8_advance_82 h
    · have h := h.2 c7
      refine q_aload_n dX8_advance_45 rfl ?_
      refine q_dup dX8_advance_46 rfl ?_
      refine q_getX (x := (σ 107 6)) dX8_advance_47 fF_RX8_26 fl_107_6 rfl ?_
      refine q_iconst (v := 1) dX8_advance_50 (by decide) ?_
      refine q_iadd dX8_advance_51 ?_
      refine q_putX (F := upd (σ 107) 6 ((σ 107 6) + 1)) dX8_advance_52 fF_RX8_26 fP_8_6 fl_107_6 rfl ?_
      refine q_goto (tgt := 20) dX8_advance_55 (by decide) ?_
      exact h

theorem s_X8_advance_131 (g : vt_GT) (σ : vt_Sg) (P : Option Value → vt_Sg → Prop) (x1 : Int32) (x2 : Int32) (x3 : Int32) (x4 : Int32)
  (h : ((σ 107 0) ≤ (σ 107 6) → (x2 = 0 → (x4 = 0 → vt_Mi g 7 D_X8_lettersToken [.ref (g.2.1 107), .int x3] σ (fun r5 σ4 => P none (su σ4 107 (upd (σ4 107) 7 r5)))) ∧ (¬ x4 = 0 → vt_Mi g 0 D_X8_numberToken [.ref (g.2.1 107)] σ (fun r7 σ6 => P none (su σ6 107 (upd (σ6 107) 7 r7))))) ∧ (¬ x2 = 0 → (¬ (σ 107 8) = x1 → (x4 = 0 → vt_Mi g 7 D_X8_lettersToken [.ref (g.2.1 107), .int x3] σ (fun r11 σ10 => P none (su σ10 107 (upd (σ10 107) 7 r11)))) ∧ (¬ x4 = 0 → vt_Mi g 0 D_X8_numberToken [.ref (g.2.1 107)] σ (fun r13 σ12 => P none (su σ12 107 (upd (σ12 107) 7 r13))))) ∧ ((σ 107 8) = x1 → P none (su σ 107 (upd (σ 107) 7 (-2)))))) ∧ (¬ (σ 107 0) ≤ (σ 107 6) → (x4 = 0 → vp_in (σ 107 6) 132 ∧ (((¬ (σ 110 (σ 107 6).toNatClampNeg) < 97 ∧ ¬ 122 < (σ 110 (σ 107 6).toNatClampNeg)) → TT g (vt_R 8) 0 0 D_X8_advance none 131 [some (.ref (g.2.1 107)), some (.int x1), some (.int x2), some (.int x3), some (.int x4), none] [] (su σ 107 (upd (σ 107) 6 ((σ 107 6) + 1))) P) ∧ (¬ (¬ (σ 110 (σ 107 6).toNatClampNeg) < 97 ∧ ¬ 122 < (σ 110 (σ 107 6).toNatClampNeg)) → (x2 = 0 → vt_Mi g 7 D_X8_lettersToken [.ref (g.2.1 107), .int x3] σ (fun r19 σ18 => P none (su σ18 107 (upd (σ18 107) 7 r19)))) ∧ (¬ x2 = 0 → (¬ (σ 107 8) = x1 → vt_Mi g 7 D_X8_lettersToken [.ref (g.2.1 107), .int x3] σ (fun r22 σ21 => P none (su σ21 107 (upd (σ21 107) 7 r22)))) ∧ ((σ 107 8) = x1 → P none (su σ 107 (upd (σ 107) 7 (-2)))))))) ∧ (¬ x4 = 0 → vp_in (σ 107 6) 132 ∧ (((¬ (σ 110 (σ 107 6).toNatClampNeg) < 48 ∧ ¬ 57 < (σ 110 (σ 107 6).toNatClampNeg)) → TT g (vt_R 8) 0 0 D_X8_advance none 131 [some (.ref (g.2.1 107)), some (.int x1), some (.int x2), some (.int x3), some (.int x4), none] [] (su σ 107 (upd (σ 107) 6 ((σ 107 6) + 1))) P) ∧ (¬ (¬ (σ 110 (σ 107 6).toNatClampNeg) < 48 ∧ ¬ 57 < (σ 110 (σ 107 6).toNatClampNeg)) → (x2 = 0 → vt_Mi g 0 D_X8_numberToken [.ref (g.2.1 107)] σ (fun r27 σ26 => P none (su σ26 107 (upd (σ26 107) 7 r27)))) ∧ (¬ x2 = 0 → (¬ (σ 107 8) = x1 → vt_Mi g 0 D_X8_numberToken [.ref (g.2.1 107)] σ (fun r30 σ29 => P none (su σ29 107 (upd (σ29 107) 7 r30)))) ∧ ((σ 107 8) = x1 → P none (su σ 107 (upd (σ 107) 7 (-2)))))))))) :
  TT g (vt_R 8) 0 0 D_X8_advance none 131 [some (.ref (g.2.1 107)), some (.int x1), some (.int x2), some (.int x3), some (.int x4), none] [] σ P := by
  refine q_aload_n dX8_advance_131 rfl ?_
  refine q_getX (x := (σ 107 6)) dX8_advance_132 fF_RX8_26 fl_107_6 rfl ?_
  refine q_aload_n dX8_advance_135 rfl ?_
  refine q_getX (x := (σ 107 0)) dX8_advance_136 fF_RX8_22 fl_107_0 rfl ?_
  refine q_icmp_ge (tgt := 193) dX8_advance_139 (by decide) (fun c1 => ?_) (fun c1 => ?_)
  · have h := h.1 c1
    refine q_iload_n dX8_advance_193 rfl ?_
    refine q_if_eq (tgt := 209) dX8_advance_194 (by decide) (fun c2 => ?_) (fun c2 => ?_)
    · have h := h.1 c2
      refine q_iconst (v := 0) dX8_advance_209 (by decide) ?_
      refine q_istore (L' := [some (.ref (g.2.1 107)), some (.int x1), some (.int x2), some (.int x3), some (.int x4), some (.int 0)]) dX8_advance_210 (by decide) rfl rfl ?_
      refine q_aload_n dX8_advance_212 rfl ?_
      refine q_iload dX8_advance_213 rfl ?_
      refine q_if_eq (tgt := 223) dX8_advance_215 (by decide) (fun _ => ?_) (fun c => absurd (by decide) c)
      refine q_iload dX8_advance_223 rfl ?_
      refine q_if_eq (tgt := 235) dX8_advance_225 (by decide) (fun c3 => ?_) (fun c3 => ?_)
      · have h := h.1 c3
        refine q_aload_n dX8_advance_235 rfl ?_
        refine q_iload_n dX8_advance_236 rfl ?_
        refine q_cV (d' := 7) [.int x3] [.ref (g.2.1 107)] dX8_advance_237 ok_X8_lettersToken mk_RX8_75 rc_107 rfl (Nat.le_of_ble_eq_true rfl) (by first | decide | omega) h (fun v σ4 h => ?_)
        obtain ⟨r5, rfl, h⟩ := h
        refine q_putX (F := upd (σ4 107) 7 r5) dX8_advance_240 fF_RX8_35 fP_8_7 fl_107_7 rfl ?_
        exact q_vret rfl dX8_advance_243 h
      · have h := h.2 c3
        refine q_aload_n dX8_advance_228 rfl ?_
        refine q_cV (d' := 0) [] [.ref (g.2.1 107)] dX8_advance_229 ok_X8_numberToken mk_RX8_71 rc_107 rfl (Nat.le_of_ble_eq_true rfl) (by first | decide | omega) h (fun v σ6 h => ?_)
        obtain ⟨r7, rfl, h⟩ := h
        refine q_goto (tgt := 240) dX8_advance_232 (by decide) ?_
        refine q_putX (F := upd (σ6 107) 7 r7) dX8_advance_240 fF_RX8_35 fP_8_7 fl_107_7 rfl ?_
        exact q_vret rfl dX8_advance_243 h
    · have h := h.2 c2
      refine q_aload_n dX8_advance_197 rfl ?_
      refine q_getX (x := (σ 107 8)) dX8_advance_198 fF_RX8_41 fl_107_8 rfl ?_
      refine q_iload_n dX8_advance_201 rfl ?_
      refine q_icmp_ne (tgt := 209) dX8_advance_202 (by decide) (fun c8 => ?_) (fun c8 => ?_)
      · have h := h.1 c8
        refine q_iconst (v := 0) dX8_advance_209 (by decide) ?_
        refine q_istore (L' := [some (.ref (g.2.1 107)), some (.int x1), some (.int x2), some (.int x3), some (.int x4), some (.int 0)]) dX8_advance_210 (by decide) rfl rfl ?_
        refine q_aload_n dX8_advance_212 rfl ?_
        refine q_iload dX8_advance_213 rfl ?_
        refine q_if_eq (tgt := 223) dX8_advance_215 (by decide) (fun _ => ?_) (fun c => absurd (by decide) c)
        refine q_iload dX8_advance_223 rfl ?_
        refine q_if_eq (tgt := 235) dX8_advance_225 (by decide) (fun c9 => ?_) (fun c9 => ?_)
        · have h := h.1 c9
          refine q_aload_n dX8_advance_235 rfl ?_
          refine q_iload_n dX8_advance_236 rfl ?_
          refine q_cV (d' := 7) [.int x3] [.ref (g.2.1 107)] dX8_advance_237 ok_X8_lettersToken mk_RX8_75 rc_107 rfl (Nat.le_of_ble_eq_true rfl) (by first | decide | omega) h (fun v σ10 h => ?_)
          obtain ⟨r11, rfl, h⟩ := h
          refine q_putX (F := upd (σ10 107) 7 r11) dX8_advance_240 fF_RX8_35 fP_8_7 fl_107_7 rfl ?_
          exact q_vret rfl dX8_advance_243 h
        · have h := h.2 c9
          refine q_aload_n dX8_advance_228 rfl ?_
          refine q_cV (d' := 0) [] [.ref (g.2.1 107)] dX8_advance_229 ok_X8_numberToken mk_RX8_71 rc_107 rfl (Nat.le_of_ble_eq_true rfl) (by first | decide | omega) h (fun v σ12 h => ?_)
          obtain ⟨r13, rfl, h⟩ := h
          refine q_goto (tgt := 240) dX8_advance_232 (by decide) ?_
          refine q_putX (F := upd (σ12 107) 7 r13) dX8_advance_240 fF_RX8_35 fP_8_7 fl_107_7 rfl ?_
          exact q_vret rfl dX8_advance_243 h
      · have h := h.2 c8
        refine q_iconst (v := 1) dX8_advance_205 (by decide) ?_
        refine q_goto (tgt := 210) dX8_advance_206 (by decide) ?_
        refine q_istore (L' := [some (.ref (g.2.1 107)), some (.int x1), some (.int x2), some (.int x3), some (.int x4), some (.int 1)]) dX8_advance_210 (by decide) rfl rfl ?_
        refine q_aload_n dX8_advance_212 rfl ?_
        refine q_iload dX8_advance_213 rfl ?_
        refine q_if_eq (tgt := 223) dX8_advance_215 (by decide) (fun c => absurd c (by decide)) (fun _ => ?_)
        refine q_bipush (v := (-2)) dX8_advance_218 (by decide) ?_
        refine q_goto (tgt := 240) dX8_advance_220 (by decide) ?_
        refine q_putX (F := upd (σ 107) 7 (-2)) dX8_advance_240 fF_RX8_35 fP_8_7 fl_107_7 rfl ?_
        exact q_vret rfl dX8_advance_243 h
  · have h := h.2 c1
    refine q_iload dX8_advance_142 rfl ?_
    refine q_if_eq (tgt := 165) dX8_advance_144 (by decide) (fun c14 => ?_) (fun c14 => ?_)
    · have h := h.1 c14
      refine q_aload_n dX8_advance_165 rfl ?_
      refine q_getR dX8_advance_166 fF_RX8_18 fl_107_4 ?_
      refine q_aload_n dX8_advance_169 rfl ?_
      refine q_getX (x := (σ 107 6)) dX8_advance_170 fF_RX8_26 fl_107_6 rfl ?_
      obtain ⟨hi15, h⟩ := h
      refine q_baldX (v := (σ 110 (σ 107 6).toNatClampNeg)) dX8_advance_173 ar_110 hi15 rfl ?_
      refine q_cSb (C := ¬ (σ 110 (σ 107 6).toNatClampNeg) < 97 ∧ ¬ 122 < (σ 110 (σ 107 6).toNatClampNeg)) (d' := 0) [.int (σ 110 (σ 107 6).toNatClampNeg)] [] dX8_advance_174 ok_X8_isLetter mk_RX8_68 rfl (Nat.le_of_ble_eq_true rfl) (by first | decide | omega) (fun Φ h9 => c_X8_isLetter (σ := σ) Φ h9) (fun c16 => ?_) (fun c16 => ?_)
      · have h := h.1 c16
        refine q_if_eq (tgt := 193) dX8_advance_177 (by decide) (fun c => absurd c (by decide)) (fun _ => ?_)
        refine q_aload_n dX8_advance_180 rfl ?_
        refine q_dup dX8_advance_181 rfl ?_
        refine q_getX (x := (σ 107 6)) dX8_advance_182 fF_RX8_26 fl_107_6 rfl ?_
        refine q_iconst (v := 1) dX8_advance_185 (by decide) ?_
        refine q_iadd dX8_advance_186 ?_
        refine q_putX (F := upd (σ 107) 6 ((σ 107 6) + 1)) dX8_advance_187 fF_RX8_26 fP_8_6 fl_107_6 rfl ?_
        refine q_goto (tgt := 131) dX8_advance_190 (by decide) ?_
        exact h
      · have h := h.2 c16
        refine q_if_eq (tgt := 193) dX8_advance_177 (by decide) (fun _ => ?_) (fun c => absurd (by decide) c)
        refine q_iload_n dX8_advance_193 rfl ?_
        refine q_if_eq (tgt := 209) dX8_advance_194 (by decide) (fun c17 => ?_) (fun c17 => ?_)
        · have h := h.1 c17
          refine q_iconst (v := 0) dX8_advance_209 (by decide) ?_
          refine q_istore (L' := [some (.ref (g.2.1 107)), some (.int x1), some (.int x2), some (.int x3), some (.int x4), some (.int 0)]) dX8_advance_210 (by decide) rfl rfl ?_
          refine q_aload_n dX8_advance_212 rfl ?_
          refine q_iload dX8_advance_213 rfl ?_
          refine q_if_eq (tgt := 223) dX8_advance_215 (by decide) (fun _ => ?_) (fun c => absurd (by decide) c)
          refine q_iload dX8_advance_223 rfl ?_
          refine q_if_eq (tgt := 235) dX8_advance_225 (by decide) (fun _ => ?_) (fun c => absurd c14 c)
          refine q_aload_n dX8_advance_235 rfl ?_
          refine q_iload_n dX8_advance_236 rfl ?_
          refine q_cV (d' := 7) [.int x3] [.ref (g.2.1 107)] dX8_advance_237 ok_X8_lettersToken mk_RX8_75 rc_107 rfl (Nat.le_of_ble_eq_true rfl) (by first | decide | omega) h (fun v σ18 h => ?_)
          obtain ⟨r19, rfl, h⟩ := h
          refine q_putX (F := upd (σ18 107) 7 r19) dX8_advance_240 fF_RX8_35 fP_8_7 fl_107_7 rfl ?_
          exact q_vret rfl dX8_advance_243 h
        · have h := h.2 c17
          refine q_aload_n dX8_advance_197 rfl ?_
          refine q_getX (x := (σ 107 8)) dX8_advance_198 fF_RX8_41 fl_107_8 rfl ?_
          refine q_iload_n dX8_advance_201 rfl ?_
          refine q_icmp_ne (tgt := 209) dX8_advance_202 (by decide) (fun c20 => ?_) (fun c20 => ?_)
          · have h := h.1 c20
            refine q_iconst (v := 0) dX8_advance_209 (by decide) ?_
            refine q_istore (L' := [some (.ref (g.2.1 107)), some (.int x1), some (.int x2), some (.int x3), some (.int x4), some (.int 0)]) dX8_advance_210 (by decide) rfl rfl ?_
            refine q_aload_n dX8_advance_212 rfl ?_
            refine q_iload dX8_advance_213 rfl ?_
            refine q_if_eq (tgt := 223) dX8_advance_215 (by decide) (fun _ => ?_) (fun c => absurd (by decide) c)
            refine q_iload dX8_advance_223 rfl ?_
            refine q_if_eq (tgt := 235) dX8_advance_225 (by decide) (fun _ => ?_) (fun c => absurd c14 c)
            refine q_aload_n dX8_advance_235 rfl ?_
            refine q_iload_n dX8_advance_236 rfl ?_
            refine q_cV (d' := 7) [.int x3] [.ref (g.2.1 107)] dX8_advance_237 ok_X8_lettersToken mk_RX8_75 rc_107 rfl (Nat.le_of_ble_eq_true rfl) (by first | decide | omega) h (fun v σ21 h => ?_)
            obtain ⟨r22, rfl, h⟩ := h
            refine q_putX (F := upd (σ21 107) 7 r22) dX8_advance_240 fF_RX8_35 fP_8_7 fl_107_7 rfl ?_
            exact q_vret rfl dX8_advance_243 h
          · have h := h.2 c20
            refine q_iconst (v := 1) dX8_advance_205 (by decide) ?_
            refine q_goto (tgt := 210) dX8_advance_206 (by decide) ?_
            refine q_istore (L' := [some (.ref (g.2.1 107)), some (.int x1), some (.int x2), some (.int x3), some (.int x4), some (.int 1)]) dX8_advance_210 (by decide) rfl rfl ?_
            refine q_aload_n dX8_advance_212 rfl ?_
            refine q_iload dX8_advance_213 rfl ?_
            refine q_if_eq (tgt := 223) dX8_advance_215 (by decide) (fun c => absurd c (by decide)) (fun _ => ?_)
            refine q_bipush (v := (-2)) dX8_advance_218 (by decide) ?_
            refine q_goto (tgt := 240) dX8_advance_220 (by decide) ?_
            refine q_putX (F := upd (σ 107) 7 (-2)) dX8_advance_240 fF_RX8_35 fP_8_7 fl_107_7 rfl ?_
            exact q_vret rfl dX8_advance_243 h
    · have h := h.2 c14
      refine q_aload_n dX8_advance_147 rfl ?_
      refine q_getR dX8_advance_148 fF_RX8_18 fl_107_4 ?_
      refine q_aload_n dX8_advance_151 rfl ?_
      refine q_getX (x := (σ 107 6)) dX8_advance_152 fF_RX8_26 fl_107_6 rfl ?_
      obtain ⟨hi23, h⟩ := h
      refine q_baldX (v := (σ 110 (σ 107 6).toNatClampNeg)) dX8_advance_155 ar_110 hi23 rfl ?_
      refine q_cSb (C := ¬ (σ 110 (σ 107 6).toNatClampNeg) < 48 ∧ ¬ 57 < (σ 110 (σ 107 6).toNatClampNeg)) (d' := 0) [.int (σ 110 (σ 107 6).toNatClampNeg)] [] dX8_advance_156 ok_X8_isDigit mk_RX8_64 rfl (Nat.le_of_ble_eq_true rfl) (by first | decide | omega) (fun Φ h9 => c_X8_isDigit (σ := σ) Φ h9) (fun c24 => ?_) (fun c24 => ?_)
      · have h := h.1 c24
        refine q_if_eq (tgt := 193) dX8_advance_159 (by decide) (fun c => absurd c (by decide)) (fun _ => ?_)
        refine q_goto (tgt := 180) dX8_advance_162 (by decide) ?_
        refine q_aload_n dX8_advance_180 rfl ?_
        refine q_dup dX8_advance_181 rfl ?_
        refine q_getX (x := (σ 107 6)) dX8_advance_182 fF_RX8_26 fl_107_6 rfl ?_
        refine q_iconst (v := 1) dX8_advance_185 (by decide) ?_
        refine q_iadd dX8_advance_186 ?_
        refine q_putX (F := upd (σ 107) 6 ((σ 107 6) + 1)) dX8_advance_187 fF_RX8_26 fP_8_6 fl_107_6 rfl ?_
        refine q_goto (tgt := 131) dX8_advance_190 (by decide) ?_
        exact h
      · have h := h.2 c24
        refine q_if_eq (tgt := 193) dX8_advance_159 (by decide) (fun _ => ?_) (fun c => absurd (by decide) c)
        refine q_iload_n dX8_advance_193 rfl ?_
        refine q_if_eq (tgt := 209) dX8_advance_194 (by decide) (fun c25 => ?_) (fun c25 => ?_)
        · have h := h.1 c25
          refine q_iconst (v := 0) dX8_advance_209 (by decide) ?_
          refine q_istore (L' := [some (.ref (g.2.1 107)), some (.int x1), some (.int x2), some (.int x3), some (.int x4), some (.int 0)]) dX8_advance_210 (by decide) rfl rfl ?_
          refine q_aload_n dX8_advance_212 rfl ?_
          refine q_iload dX8_advance_213 rfl ?_
          refine q_if_eq (tgt := 223) dX8_advance_215 (by decide) (fun _ => ?_) (fun c => absurd (by decide) c)
          refine q_iload dX8_advance_223 rfl ?_
          refine q_if_eq (tgt := 235) dX8_advance_225 (by decide) (fun c => absurd c c14) (fun _ => ?_)
          refine q_aload_n dX8_advance_228 rfl ?_
          refine q_cV (d' := 0) [] [.ref (g.2.1 107)] dX8_advance_229 ok_X8_numberToken mk_RX8_71 rc_107 rfl (Nat.le_of_ble_eq_true rfl) (by first | decide | omega) h (fun v σ26 h => ?_)
          obtain ⟨r27, rfl, h⟩ := h
          refine q_goto (tgt := 240) dX8_advance_232 (by decide) ?_
          refine q_putX (F := upd (σ26 107) 7 r27) dX8_advance_240 fF_RX8_35 fP_8_7 fl_107_7 rfl ?_
          exact q_vret rfl dX8_advance_243 h
        · have h := h.2 c25
          refine q_aload_n dX8_advance_197 rfl ?_
          refine q_getX (x := (σ 107 8)) dX8_advance_198 fF_RX8_41 fl_107_8 rfl ?_
          refine q_iload_n dX8_advance_201 rfl ?_
          refine q_icmp_ne (tgt := 209) dX8_advance_202 (by decide) (fun c28 => ?_) (fun c28 => ?_)
          · have h := h.1 c28
            refine q_iconst (v := 0) dX8_advance_209 (by decide) ?_
            refine q_istore (L' := [some (.ref (g.2.1 107)), some (.int x1), some (.int x2), some (.int x3), some (.int x4), some (.int 0)]) dX8_advance_210 (by decide) rfl rfl ?_
            refine q_aload_n dX8_advance_212 rfl ?_
            refine q_iload dX8_advance_213 rfl ?_
            refine q_if_eq (tgt := 223) dX8_advance_215 (by decide) (fun _ => ?_) (fun c => absurd (by decide) c)
            refine q_iload dX8_advance_223 rfl ?_
            refine q_if_eq (tgt := 235) dX8_advance_225 (by decide) (fun c => absurd c c14) (fun _ => ?_)
            refine q_aload_n dX8_advance_228 rfl ?_
            refine q_cV (d' := 0) [] [.ref (g.2.1 107)] dX8_advance_229 ok_X8_numberToken mk_RX8_71 rc_107 rfl (Nat.le_of_ble_eq_true rfl) (by first | decide | omega) h (fun v σ29 h => ?_)
            obtain ⟨r30, rfl, h⟩ := h
            refine q_goto (tgt := 240) dX8_advance_232 (by decide) ?_
            refine q_putX (F := upd (σ29 107) 7 r30) dX8_advance_240 fF_RX8_35 fP_8_7 fl_107_7 rfl ?_
            exact q_vret rfl dX8_advance_243 h
          · have h := h.2 c28
            refine q_iconst (v := 1) dX8_advance_205 (by decide) ?_
            refine q_goto (tgt := 210) dX8_advance_206 (by decide) ?_
            refine q_istore (L' := [some (.ref (g.2.1 107)), some (.int x1), some (.int x2), some (.int x3), some (.int x4), some (.int 1)]) dX8_advance_210 (by decide) rfl rfl ?_
            refine q_aload_n dX8_advance_212 rfl ?_
            refine q_iload dX8_advance_213 rfl ?_
            refine q_if_eq (tgt := 223) dX8_advance_215 (by decide) (fun c => absurd c (by decide)) (fun _ => ?_)
            refine q_bipush (v := (-2)) dX8_advance_218 (by decide) ?_
            refine q_goto (tgt := 240) dX8_advance_220 (by decide) ?_
            refine q_putX (F := upd (σ 107) 7 (-2)) dX8_advance_240 fF_RX8_35 fP_8_7 fl_107_7 rfl ?_
            exact q_vret rfl dX8_advance_243 h

theorem s_X8_numberToken_0 (g : vt_GT) (σ : vt_Sg) (P : Option Value → vt_Sg → Prop) 
  (h : (((σ 107 6) - (σ 107 8)) ≤ 5 → TT g (vt_R 0) 0 0 D_X8_numberToken none 26 [some (.ref (g.2.1 107)), some (.int (σ 107 8))] [] (su σ 107 (upd (σ 107) 9 0)) P) ∧ (¬ ((σ 107 6) - (σ 107 8)) ≤ 5 → P (some (.int (-2))) σ)) :
  TT g (vt_R 0) 0 0 D_X8_numberToken none 0 [some (.ref (g.2.1 107)), none] [] σ P := by
  refine q_aload_n dX8_numberToken_0 rfl ?_
  refine q_getX (x := (σ 107 6)) dX8_numberToken_1 fF_RX8_26 fl_107_6 rfl ?_
  refine q_aload_n dX8_numberToken_4 rfl ?_
  refine q_getX (x := (σ 107 8)) dX8_numberToken_5 fF_RX8_41 fl_107_8 rfl ?_
  refine q_isub dX8_numberToken_8 ?_
  refine q_iconst (v := 5) dX8_numberToken_9 (by decide) ?_
  refine q_icmp_le (tgt := 16) dX8_numberToken_10 (by decide) (fun c1 => ?_) (fun c1 => ?_)
  · have h := h.1 c1
    refine q_aload_n dX8_numberToken_16 rfl ?_
    refine q_iconst (v := 0) dX8_numberToken_17 (by decide) ?_
    refine q_putX (F := upd (σ 107) 9 0) dX8_numberToken_18 fF_RX8_61 fP_8_9 fl_107_9 rfl ?_
    refine q_aload_n dX8_numberToken_21 rfl ?_
    refine q_getX (x := (σ 107 8)) dX8_numberToken_22 fF_RX8_41 fl_107_8 rfl ?_
    refine q_istore_n (L' := [some (.ref (g.2.1 107)), some (.int (σ 107 8))]) dX8_numberToken_25 (by decide) rfl rfl ?_
    exact h
  · have h := h.2 c1
    refine q_bipush (v := (-2)) dX8_numberToken_13 (by decide) ?_
    exact q_iret .int rfl rfl dX8_numberToken_15 h

theorem s_X8_numberToken_26 (g : vt_GT) (σ : vt_Sg) (P : Option Value → vt_Sg → Prop) (x1 : Int32)
  (h : ((σ 107 6) ≤ x1 → P (some (.int (-3))) σ) ∧ (¬ (σ 107 6) ≤ x1 → vp_in x1 132 ∧ (TT g (vt_R 0) 0 0 D_X8_numberToken none 26 [some (.ref (g.2.1 107)), some (.int (x1 + 1))] [] (su σ 107 (upd (σ 107) 9 ((((σ 107 9) * 10) + (σ 110 x1.toNatClampNeg)) - 48))) P))) :
  TT g (vt_R 0) 0 0 D_X8_numberToken none 26 [some (.ref (g.2.1 107)), some (.int x1)] [] σ P := by
  refine q_iload_n dX8_numberToken_26 rfl ?_
  refine q_aload_n dX8_numberToken_27 rfl ?_
  refine q_getX (x := (σ 107 6)) dX8_numberToken_28 fF_RX8_26 fl_107_6 rfl ?_
  refine q_icmp_ge (tgt := 61) dX8_numberToken_31 (by decide) (fun c1 => ?_) (fun c1 => ?_)
  · have h := h.1 c1
    refine q_bipush (v := (-3)) dX8_numberToken_61 (by decide) ?_
    exact q_iret .int rfl rfl dX8_numberToken_63 h
  · have h := h.2 c1
    refine q_aload_n dX8_numberToken_34 rfl ?_
    refine q_aload_n dX8_numberToken_35 rfl ?_
    refine q_getX (x := (σ 107 9)) dX8_numberToken_36 fF_RX8_61 fl_107_9 rfl ?_
    refine q_bipush (v := 10) dX8_numberToken_39 (by decide) ?_
    refine q_imul dX8_numberToken_41 ?_
    refine q_aload_n dX8_numberToken_42 rfl ?_
    refine q_getR dX8_numberToken_43 fF_RX8_18 fl_107_4 ?_
    refine q_iload_n dX8_numberToken_46 rfl ?_
    obtain ⟨hi2, h⟩ := h
    refine q_baldX (v := (σ 110 x1.toNatClampNeg)) dX8_numberToken_47 ar_110 hi2 rfl ?_
    refine q_iadd dX8_numberToken_48 ?_
    refine q_bipush (v := 48) dX8_numberToken_49 (by decide) ?_
    refine q_isub dX8_numberToken_51 ?_
    refine q_putX (F := upd (σ 107) 9 ((((σ 107 9) * 10) + (σ 110 x1.toNatClampNeg)) - 48)) dX8_numberToken_52 fF_RX8_61 fP_8_9 fl_107_9 rfl ?_
    refine q_iinc (L' := [some (.ref (g.2.1 107)), some (.int (x1 + 1))]) dX8_numberToken_55 rfl (by decide) rfl rfl ?_
    refine q_goto (tgt := 26) dX8_numberToken_58 (by decide) ?_
    exact h

theorem s_X8_lettersToken_0 (g : vt_GT) (σ : vt_Sg) (P : Option Value → vt_Sg → Prop) (p1 : Int32)
  (h : (¬ ((σ 107 6) - (σ 107 8)) = 1 → vt_Mi g 5 D_X8_reads [.ref (g.2.1 107), .ref (g.2.2.2.2.1 1)] σ (fun r3 σ2 => (r3 = 0 → vt_Mi g 5 D_X8_reads [.ref (g.2.1 107), .ref (g.2.2.2.2.1 2)] σ2 (fun r6 σ5 => (r6 = 0 → vt_Mi g 5 D_X8_reads [.ref (g.2.1 107), .ref (g.2.2.2.2.1 3)] σ5 (fun r9 σ8 => (r9 = 0 → P (some (.int (-2))) σ8) ∧ (¬ r9 = 0 → P (some (.int (-7))) σ8))) ∧ (¬ r6 = 0 → P (some (.int (-6))) σ5))) ∧ (¬ r3 = 0 → P (some (.int (-5))) σ2))) ∧ (((σ 107 6) - (σ 107 8)) = 1 → vt_Mi g 6 D_J0_indexOf_0f7a4 [.ref (g.2.2.2.2.1 0), .int ((p1.toUInt32 % 65536).toInt32)] σ (fun r12 σ11 => (r12 < 0 → vt_Mi g 5 D_X8_reads [.ref (g.2.1 107), .ref (g.2.2.2.2.1 1)] σ11 (fun r15 σ14 => (r15 = 0 → vt_Mi g 5 D_X8_reads [.ref (g.2.1 107), .ref (g.2.2.2.2.1 2)] σ14 (fun r18 σ17 => (r18 = 0 → vt_Mi g 5 D_X8_reads [.ref (g.2.1 107), .ref (g.2.2.2.2.1 3)] σ17 (fun r21 σ20 => (r21 = 0 → P (some (.int (-2))) σ20) ∧ (¬ r21 = 0 → P (some (.int (-7))) σ20))) ∧ (¬ r18 = 0 → P (some (.int (-6))) σ17))) ∧ (¬ r15 = 0 → P (some (.int (-5))) σ14))) ∧ (¬ r12 < 0 → P (some (.int (-4))) (su σ11 107 (upd (σ11 107) 9 (-p1))))))) :
  TT g (vt_R 7) 0 0 D_X8_lettersToken none 0 [some (.ref (g.2.1 107)), some (.int p1)] [] σ P := by
  refine q_aload_n dX8_lettersToken_0 rfl ?_
  refine q_getX (x := (σ 107 6)) dX8_lettersToken_1 fF_RX8_26 fl_107_6 rfl ?_
  refine q_aload_n dX8_lettersToken_4 rfl ?_
  refine q_getX (x := (σ 107 8)) dX8_lettersToken_5 fF_RX8_41 fl_107_8 rfl ?_
  refine q_isub dX8_lettersToken_8 ?_
  refine q_iconst (v := 1) dX8_lettersToken_9 (by decide) ?_
  refine q_icmp_ne (tgt := 32) dX8_lettersToken_10 (by decide) (fun c1 => ?_) (fun c1 => ?_)
  · have h := h.1 c1
    refine q_aload_n dX8_lettersToken_32 rfl ?_
    refine q_ldcS (k0 := 1) dX8_lettersToken_33 rfl ?_
    refine q_cV (d' := 5) [.ref (g.2.2.2.2.1 1)] [] dX8_lettersToken_35 ok_X8_reads mk_RX8_87 rc_107 rfl (Nat.le_of_ble_eq_true rfl) (by first | decide | omega) h (fun v σ2 h => ?_)
    obtain ⟨r3, rfl, h⟩ := h
    refine q_if_eq (tgt := 44) dX8_lettersToken_38 (by decide) (fun c4 => ?_) (fun c4 => ?_)
    · have h := h.1 c4
      refine q_aload_n dX8_lettersToken_44 rfl ?_
      refine q_ldcS (k0 := 2) dX8_lettersToken_45 rfl ?_
      refine q_cV (d' := 5) [.ref (g.2.2.2.2.1 2)] [] dX8_lettersToken_47 ok_X8_reads mk_RX8_87 rc_107 rfl (Nat.le_of_ble_eq_true rfl) (by first | decide | omega) h (fun v σ5 h => ?_)
      obtain ⟨r6, rfl, h⟩ := h
      refine q_if_eq (tgt := 56) dX8_lettersToken_50 (by decide) (fun c7 => ?_) (fun c7 => ?_)
      · have h := h.1 c7
        refine q_aload_n dX8_lettersToken_56 rfl ?_
        refine q_ldcS (k0 := 3) dX8_lettersToken_57 rfl ?_
        refine q_cV (d' := 5) [.ref (g.2.2.2.2.1 3)] [] dX8_lettersToken_59 ok_X8_reads mk_RX8_87 rc_107 rfl (Nat.le_of_ble_eq_true rfl) (by first | decide | omega) h (fun v σ8 h => ?_)
        obtain ⟨r9, rfl, h⟩ := h
        refine q_if_eq (tgt := 70) dX8_lettersToken_62 (by decide) (fun c10 => ?_) (fun c10 => ?_)
        · have h := h.1 c10
          refine q_bipush (v := (-2)) dX8_lettersToken_70 (by decide) ?_
          exact q_iret .int rfl rfl dX8_lettersToken_72 h
        · have h := h.2 c10
          refine q_bipush (v := (-7)) dX8_lettersToken_65 (by decide) ?_
          refine q_goto (tgt := 72) dX8_lettersToken_67 (by decide) ?_
          exact q_iret .int rfl rfl dX8_lettersToken_72 h
      · have h := h.2 c7
        refine q_bipush (v := (-6)) dX8_lettersToken_53 (by decide) ?_
        exact q_iret .int rfl rfl dX8_lettersToken_55 h
    · have h := h.2 c4
      refine q_bipush (v := (-5)) dX8_lettersToken_41 (by decide) ?_
      exact q_iret .int rfl rfl dX8_lettersToken_43 h
  · have h := h.2 c1
    refine q_ldcS (k0 := 0) dX8_lettersToken_13 rfl ?_
    refine q_iload_n dX8_lettersToken_15 rfl ?_
    refine q_i2c dX8_lettersToken_16 ?_
    refine q_cV (d' := 6) [.int ((p1.toUInt32 % 65536).toInt32)] [] dX8_lettersToken_17 ok_J0_indexOf_0f7a4 mk_RX8_80 (vt_rcvS rfl) rfl (Nat.le_of_ble_eq_true rfl) (by first | decide | omega) h (fun v σ11 h => ?_)
    obtain ⟨r12, rfl, h⟩ := h
    refine q_if_lt (tgt := 32) dX8_lettersToken_20 (by decide) (fun c13 => ?_) (fun c13 => ?_)
    · have h := h.1 c13
      refine q_aload_n dX8_lettersToken_32 rfl ?_
      refine q_ldcS (k0 := 1) dX8_lettersToken_33 rfl ?_
      refine q_cV (d' := 5) [.ref (g.2.2.2.2.1 1)] [] dX8_lettersToken_35 ok_X8_reads mk_RX8_87 rc_107 rfl (Nat.le_of_ble_eq_true rfl) (by first | decide | omega) h (fun v σ14 h => ?_)
      obtain ⟨r15, rfl, h⟩ := h
      refine q_if_eq (tgt := 44) dX8_lettersToken_38 (by decide) (fun c16 => ?_) (fun c16 => ?_)
      · have h := h.1 c16
        refine q_aload_n dX8_lettersToken_44 rfl ?_
        refine q_ldcS (k0 := 2) dX8_lettersToken_45 rfl ?_
        refine q_cV (d' := 5) [.ref (g.2.2.2.2.1 2)] [] dX8_lettersToken_47 ok_X8_reads mk_RX8_87 rc_107 rfl (Nat.le_of_ble_eq_true rfl) (by first | decide | omega) h (fun v σ17 h => ?_)
        obtain ⟨r18, rfl, h⟩ := h
        refine q_if_eq (tgt := 56) dX8_lettersToken_50 (by decide) (fun c19 => ?_) (fun c19 => ?_)
        · have h := h.1 c19
          refine q_aload_n dX8_lettersToken_56 rfl ?_
          refine q_ldcS (k0 := 3) dX8_lettersToken_57 rfl ?_
          refine q_cV (d' := 5) [.ref (g.2.2.2.2.1 3)] [] dX8_lettersToken_59 ok_X8_reads mk_RX8_87 rc_107 rfl (Nat.le_of_ble_eq_true rfl) (by first | decide | omega) h (fun v σ20 h => ?_)
          obtain ⟨r21, rfl, h⟩ := h
          refine q_if_eq (tgt := 70) dX8_lettersToken_62 (by decide) (fun c22 => ?_) (fun c22 => ?_)
          · have h := h.1 c22
            refine q_bipush (v := (-2)) dX8_lettersToken_70 (by decide) ?_
            exact q_iret .int rfl rfl dX8_lettersToken_72 h
          · have h := h.2 c22
            refine q_bipush (v := (-7)) dX8_lettersToken_65 (by decide) ?_
            refine q_goto (tgt := 72) dX8_lettersToken_67 (by decide) ?_
            exact q_iret .int rfl rfl dX8_lettersToken_72 h
        · have h := h.2 c19
          refine q_bipush (v := (-6)) dX8_lettersToken_53 (by decide) ?_
          exact q_iret .int rfl rfl dX8_lettersToken_55 h
      · have h := h.2 c16
        refine q_bipush (v := (-5)) dX8_lettersToken_41 (by decide) ?_
        exact q_iret .int rfl rfl dX8_lettersToken_43 h
    · have h := h.2 c13
      refine q_aload_n dX8_lettersToken_23 rfl ?_
      refine q_iload_n dX8_lettersToken_24 rfl ?_
      refine q_ineg dX8_lettersToken_25 ?_
      refine q_putX (F := upd (σ11 107) 9 (-p1)) dX8_lettersToken_26 fF_RX8_61 fP_8_9 fl_107_9 rfl ?_
      refine q_bipush (v := (-4)) dX8_lettersToken_29 (by decide) ?_
      exact q_iret .int rfl rfl dX8_lettersToken_31 h

theorem s_X8_reads_0 (g : vt_GT) (σ : vt_Sg) (P : Option Value → vt_Sg → Prop) (si : Nat) (so : String) (sk : Nat) (tx : String) (bs : List Int32) (hstr : vt_strs[si]? = some (so, sk, tx, bs)) 
  (h : vt_Mi g 1 D_J0_length_8abf5 [.ref (g.2.2.2.2.1 si)] σ (fun r2 σ1 => (((σ 107 6) - (σ 107 8)) = r2 → TT g (vt_R 5) 0 0 D_X8_reads none 20 [some (.ref (g.2.1 107)), some (.ref (g.2.2.2.2.1 si)), some (.int 0)] [] σ1 P) ∧ (¬ ((σ 107 6) - (σ 107 8)) = r2 → P (some (.int 0)) σ1))) :
  TT g (vt_R 5) 0 0 D_X8_reads none 0 [some (.ref (g.2.1 107)), some (.ref (g.2.2.2.2.1 si)), none] [] σ P := by
  refine q_aload_n dX8_reads_0 rfl ?_
  refine q_getX (x := (σ 107 6)) dX8_reads_1 fF_RX8_26 fl_107_6 rfl ?_
  refine q_aload_n dX8_reads_4 rfl ?_
  refine q_getX (x := (σ 107 8)) dX8_reads_5 fF_RX8_41 fl_107_8 rfl ?_
  refine q_isub dX8_reads_8 ?_
  refine q_aload_n dX8_reads_9 rfl ?_
  refine q_cV (d' := 1) [] [.int ((σ 107 6) - (σ 107 8))] dX8_reads_10 ok_J0_length_8abf5 mk_RX8_95 (vt_rcvS hstr) rfl (Nat.le_of_ble_eq_true rfl) (by first | decide | omega) h (fun v σ1 h => ?_)
  obtain ⟨r2, rfl, h⟩ := h
  refine q_icmp_eq (tgt := 18) dX8_reads_13 (by decide) (fun c3 => ?_) (fun c3 => ?_)
  · have h := h.1 c3
    refine q_iconst (v := 0) dX8_reads_18 (by decide) ?_
    refine q_istore_n (L' := [some (.ref (g.2.1 107)), some (.ref (g.2.2.2.2.1 si)), some (.int 0)]) dX8_reads_19 (by decide) rfl rfl ?_
    exact h
  · have h := h.2 c3
    refine q_iconst (v := 0) dX8_reads_16 (by decide) ?_
    exact q_iret .boolean rfl rfl dX8_reads_17 h

theorem s_X8_reads_20 (g : vt_GT) (σ : vt_Sg) (P : Option Value → vt_Sg → Prop) (si : Nat) (so : String) (sk : Nat) (tx : String) (bs : List Int32) (hstr : vt_strs[si]? = some (so, sk, tx, bs)) (x2 : Int32)
  (h : vt_Mi g 1 D_J0_length_8abf5 [.ref (g.2.2.2.2.1 si)] σ (fun r2 σ1 => (r2 ≤ x2 → P (some (.int 1)) σ1) ∧ (¬ r2 ≤ x2 → vp_in ((σ1 107 8) + x2) 132 ∧ (vt_Mi g 4 D_J0_charAt_5068e [.ref (g.2.2.2.2.1 si), .int x2] σ1 (fun r6 σ5 => ((σ1 110 ((σ1 107 8) + x2).toNatClampNeg) = r6 → TT g (vt_R 5) 0 0 D_X8_reads none 20 [some (.ref (g.2.1 107)), some (.ref (g.2.2.2.2.1 si)), some (.int (x2 + 1))] [] σ5 P) ∧ (¬ (σ1 110 ((σ1 107 8) + x2).toNatClampNeg) = r6 → P (some (.int 0)) σ5)))))) :
  TT g (vt_R 5) 0 0 D_X8_reads none 20 [some (.ref (g.2.1 107)), some (.ref (g.2.2.2.2.1 si)), some (.int x2)] [] σ P := by
  refine q_iload_n dX8_reads_20 rfl ?_
  refine q_aload_n dX8_reads_21 rfl ?_
  refine q_cV (d' := 1) [] [.int x2] dX8_reads_22 ok_J0_length_8abf5 mk_RX8_95 (vt_rcvS hstr) rfl (Nat.le_of_ble_eq_true rfl) (by first | decide | omega) h (fun v σ1 h => ?_)
  obtain ⟨r2, rfl, h⟩ := h
  refine q_icmp_ge (tgt := 55) dX8_reads_25 (by decide) (fun c3 => ?_) (fun c3 => ?_)
  · have h := h.1 c3
    refine q_iconst (v := 1) dX8_reads_55 (by decide) ?_
    exact q_iret .boolean rfl rfl dX8_reads_56 h
  · have h := h.2 c3
    refine q_aload_n dX8_reads_28 rfl ?_
    refine q_getR dX8_reads_29 fF_RX8_18 fl_107_4 ?_
    refine q_aload_n dX8_reads_32 rfl ?_
    refine q_getX (x := (σ1 107 8)) dX8_reads_33 fF_RX8_41 fl_107_8 rfl ?_
    refine q_iload_n dX8_reads_36 rfl ?_
    refine q_iadd dX8_reads_37 ?_
    obtain ⟨hi4, h⟩ := h
    refine q_baldX (v := (σ1 110 ((σ1 107 8) + x2).toNatClampNeg)) dX8_reads_38 ar_110 hi4 rfl ?_
    refine q_aload_n dX8_reads_39 rfl ?_
    refine q_iload_n dX8_reads_40 rfl ?_
    refine q_cV (d' := 4) [.int x2] [.int (σ1 110 ((σ1 107 8) + x2).toNatClampNeg)] dX8_reads_41 ok_J0_charAt_5068e mk_RX8_98 (vt_rcvS hstr) rfl (Nat.le_of_ble_eq_true rfl) (by first | decide | omega) h (fun v σ5 h => ?_)
    obtain ⟨r6, rfl, h⟩ := h
    refine q_icmp_eq (tgt := 49) dX8_reads_44 (by decide) (fun c7 => ?_) (fun c7 => ?_)
    · have h := h.1 c7
      refine q_iinc (L' := [some (.ref (g.2.1 107)), some (.ref (g.2.2.2.2.1 si)), some (.int (x2 + 1))]) dX8_reads_49 rfl (by decide) rfl rfl ?_
      refine q_goto (tgt := 20) dX8_reads_52 (by decide) ?_
      exact h
    · have h := h.2 c7
      refine q_iconst (v := 0) dX8_reads_47 (by decide) ?_
      exact q_iret .boolean rfl rfl dX8_reads_48 h

