theorem s_J0_length_8abf5_0 (g : vt_GT) (σ : vt_Sg) (P : Option Value → vt_Sg → Prop) (si : Nat) (so : String) (sk : Nat) (tx : String) (bs : List Int32) (hstr : vt_strs[si]? = some (so, sk, tx, bs)) 
  (h : vt_Mi g 0 D_J0_coder_7d493 [.ref (g.2.2.2.2.1 si)] σ (fun r2 σ1 => P (some (.int ((Int32.ofNat bs.length) >>> (r2 &&& 31)))) σ1)) :
  TT g (vt_R 1) 0 0 D_J0_length_8abf5 none 0 [some (.ref (g.2.2.2.2.1 si))] [] σ P := by
  refine q_aload_n dJ0_length_8abf5_0 rfl ?_
  refine q_getV dJ0_length_8abf5_1 fS_RJ0_9 hstr ?_
  refine q_slen dJ0_length_8abf5_4 hstr rfl ?_
  refine q_aload_n dJ0_length_8abf5_5 rfl ?_
  refine q_cV (d' := 0) [] [.int (Int32.ofNat bs.length)] dJ0_length_8abf5_6 ok_J0_coder_7d493 mk_RJ0_335 (vt_rcvS hstr) rfl (Nat.le_of_ble_eq_true rfl) (by first | decide | omega) h (fun v σ1 h => ?_)
  obtain ⟨r2, rfl, h⟩ := h
  refine q_ishr dJ0_length_8abf5_9 ?_
  exact q_iret .int rfl rfl dJ0_length_8abf5_10 h

theorem s_J0_charAt_5068e_0 (g : vt_GT) (σ : vt_Sg) (P : Option Value → vt_Sg → Prop) (si : Nat) (so : String) (sk : Nat) (tx : String) (bs : List Int32) (hstr : vt_strs[si]? = some (so, sk, tx, bs)) (p1 : Int32)
  (h : vt_Mi g 0 D_J0_isLatin1_aae02 [.ref (g.2.2.2.2.1 si)] σ (fun r2 σ1 => (r2 = 0 → TT g (vt_R 4) 0 0 D_J0_charAt_5068e none 16 [some (.ref (g.2.2.2.2.1 si)), some (.int p1)] [] σ1 P) ∧ (¬ r2 = 0 → vt_Mi g 2 D_J1_charAt_3b067 [.ref (g.2.2.2.2.2 si), .int p1] σ1 (fun r5 σ4 => narrow .char (.int r5) = .int r5 ∧ P (some (.int r5)) σ4)))) :
  TT g (vt_R 4) 0 0 D_J0_charAt_5068e none 0 [some (.ref (g.2.2.2.2.1 si)), some (.int p1)] [] σ P := by
  refine q_aload_n dJ0_charAt_5068e_0 rfl ?_
  refine q_cV (d' := 0) [] [] dJ0_charAt_5068e_1 ok_J0_isLatin1_aae02 mk_RJ0_492 (vt_rcvS hstr) rfl (Nat.le_of_ble_eq_true rfl) (by first | decide | omega) h (fun v σ1 h => ?_)
  obtain ⟨r2, rfl, h⟩ := h
  refine q_if_eq (tgt := 16) dJ0_charAt_5068e_4 (by decide) (fun c3 => ?_) (fun c3 => ?_)
  · have h := h.1 c3
    exact h
  · have h := h.2 c3
    refine q_aload_n dJ0_charAt_5068e_7 rfl ?_
    refine q_getV dJ0_charAt_5068e_8 fS_RJ0_9 hstr ?_
    refine q_iload_n dJ0_charAt_5068e_11 rfl ?_
    refine q_cS (d' := 2) [.ref (g.2.2.2.2.2 si), .int p1] [] dJ0_charAt_5068e_12 ok_J1_charAt_3b067 mk_RJ0_495 rfl (Nat.le_of_ble_eq_true rfl) (by first | decide | omega) h (fun v σ4 h => ?_)
    obtain ⟨r5, rfl, h⟩ := h
    exact q_iret .char rfl h.1 dJ0_charAt_5068e_15 h.2

theorem s_J0_indexOf_0f7a4_0 (g : vt_GT) (σ : vt_Sg) (P : Option Value → vt_Sg → Prop) (si : Nat) (so : String) (sk : Nat) (tx : String) (bs : List Int32) (hstr : vt_strs[si]? = some (so, sk, tx, bs)) (p1 : Int32)
  (h : vt_Mi g 5 D_J0_indexOf_7cf53 [.ref (g.2.2.2.2.1 si), .int p1, .int 0] σ (fun r2 σ1 => P (some (.int r2)) σ1)) :
  TT g (vt_R 6) 0 0 D_J0_indexOf_0f7a4 none 0 [some (.ref (g.2.2.2.2.1 si)), some (.int p1)] [] σ P := by
  refine q_aload_n dJ0_indexOf_0f7a4_0 rfl ?_
  refine q_iload_n dJ0_indexOf_0f7a4_1 rfl ?_
  refine q_iconst (v := 0) dJ0_indexOf_0f7a4_2 (by decide) ?_
  refine q_cV (d' := 5) [.int p1, .int 0] [] dJ0_indexOf_0f7a4_3 ok_J0_indexOf_7cf53 mk_RJ0_633 (vt_rcvS hstr) rfl (Nat.le_of_ble_eq_true rfl) (by first | decide | omega) h (fun v σ1 h => ?_)
  obtain ⟨r2, rfl, h⟩ := h
  exact q_iret .int rfl rfl dJ0_indexOf_0f7a4_6 h

theorem s_J0_indexOf_7cf53_0 (g : vt_GT) (σ : vt_Sg) (P : Option Value → vt_Sg → Prop) (si : Nat) (so : String) (sk : Nat) (tx : String) (bs : List Int32) (hstr : vt_strs[si]? = some (so, sk, tx, bs)) (p1 : Int32) (p2 : Int32)
  (h : vt_Mi g 0 D_J0_isLatin1_aae02 [.ref (g.2.2.2.2.1 si)] σ (fun r2 σ1 => (r2 = 0 → TT g (vt_R 5) 0 0 D_J0_indexOf_7cf53 none 23 [some (.ref (g.2.2.2.2.1 si)), some (.int p1), some (.int p2)] [] σ1 P) ∧ (¬ r2 = 0 → vt_Mi g 1 D_J0_length_8abf5 [.ref (g.2.2.2.2.1 si)] σ1 (fun r5 σ4 => vt_Mi g 1 D_J1_indexOf_4cfef [.ref (g.2.2.2.2.2 si), .int p1, .int p2, .int r5] σ4 (fun r7 σ6 => P (some (.int r7)) σ6))))) :
  TT g (vt_R 5) 0 0 D_J0_indexOf_7cf53 none 0 [some (.ref (g.2.2.2.2.1 si)), some (.int p1), some (.int p2)] [] σ P := by
  refine q_aload_n dJ0_indexOf_7cf53_0 rfl ?_
  refine q_cV (d' := 0) [] [] dJ0_indexOf_7cf53_1 ok_J0_isLatin1_aae02 mk_RJ0_492 (vt_rcvS hstr) rfl (Nat.le_of_ble_eq_true rfl) (by first | decide | omega) h (fun v σ1 h => ?_)
  obtain ⟨r2, rfl, h⟩ := h
  refine q_if_eq (tgt := 23) dJ0_indexOf_7cf53_4 (by decide) (fun c3 => ?_) (fun c3 => ?_)
  · have h := h.1 c3
    exact h
  · have h := h.2 c3
    refine q_aload_n dJ0_indexOf_7cf53_7 rfl ?_
    refine q_getV dJ0_indexOf_7cf53_8 fS_RJ0_9 hstr ?_
    refine q_iload_n dJ0_indexOf_7cf53_11 rfl ?_
    refine q_iload_n dJ0_indexOf_7cf53_12 rfl ?_
    refine q_aload_n dJ0_indexOf_7cf53_13 rfl ?_
    refine q_cV (d' := 1) [] [.int p2, .int p1, .ref (g.2.2.2.2.2 si)] dJ0_indexOf_7cf53_14 ok_J0_length_8abf5 mk_RJ0_505 (vt_rcvS hstr) rfl (Nat.le_of_ble_eq_true rfl) (by first | decide | omega) h (fun v σ4 h => ?_)
    obtain ⟨r5, rfl, h⟩ := h
    refine q_cS (d' := 1) [.ref (g.2.2.2.2.2 si), .int p1, .int p2, .int r5] [] dJ0_indexOf_7cf53_17 ok_J1_indexOf_4cfef mk_RJ0_637 rfl (Nat.le_of_ble_eq_true rfl) (by first | decide | omega) h (fun v σ6 h => ?_)
    obtain ⟨r7, rfl, h⟩ := h
    refine q_goto (tgt := 36) dJ0_indexOf_7cf53_20 (by decide) ?_
    exact q_iret .int rfl rfl dJ0_indexOf_7cf53_36 h

theorem s_J0_coder_7d493_0 (g : vt_GT) (σ : vt_Sg) (P : Option Value → vt_Sg → Prop) (si : Nat) (so : String) (sk : Nat) (tx : String) (bs : List Int32) (hstr : vt_strs[si]? = some (so, sk, tx, bs)) 
  (h : P (some (.int 0)) σ) :
  TT g (vt_R 0) 0 0 D_J0_coder_7d493 none 0 [some (.ref (g.2.2.2.2.1 si))] [] σ P := by
  refine q_compact dJ0_coder_7d493_0 fS_RJ0_38 ?_
  refine q_if_eq (tgt := 13) dJ0_coder_7d493_3 (by decide) (fun c => absurd c (by decide)) (fun _ => ?_)
  refine q_aload_n dJ0_coder_7d493_6 rfl ?_
  refine q_getK dJ0_coder_7d493_7 fS_RJ0_15 hstr ?_
  refine q_goto (tgt := 14) dJ0_coder_7d493_10 (by decide) ?_
  exact q_iret .byte rfl rfl dJ0_coder_7d493_14 h

theorem s_J0_isLatin1_aae02_0 (g : vt_GT) (σ : vt_Sg) (P : Option Value → vt_Sg → Prop) (si : Nat) (so : String) (sk : Nat) (tx : String) (bs : List Int32) (hstr : vt_strs[si]? = some (so, sk, tx, bs)) 
  (h : P (some (.int 1)) σ) :
  TT g (vt_R 0) 0 0 D_J0_isLatin1_aae02 none 0 [some (.ref (g.2.2.2.2.1 si))] [] σ P := by
  refine q_compact dJ0_isLatin1_aae02_0 fS_RJ0_38 ?_
  refine q_if_eq (tgt := 17) dJ0_isLatin1_aae02_3 (by decide) (fun c => absurd c (by decide)) (fun _ => ?_)
  refine q_aload_n dJ0_isLatin1_aae02_6 rfl ?_
  refine q_getK dJ0_isLatin1_aae02_7 fS_RJ0_15 hstr ?_
  refine q_if_ne (tgt := 17) dJ0_isLatin1_aae02_10 (by decide) (fun c => absurd rfl c) (fun _ => ?_)
  refine q_iconst (v := 1) dJ0_isLatin1_aae02_13 (by decide) ?_
  refine q_goto (tgt := 18) dJ0_isLatin1_aae02_14 (by decide) ?_
  exact q_iret .boolean rfl rfl dJ0_isLatin1_aae02_18 h

theorem s_J0_checkIndex_df160_0 (g : vt_GT) (σ : vt_Sg) (P : Option Value → vt_Sg → Prop) (p1 : Int32) (p2 : Int32)
  (h0 : (vt_Mi g 0 D_J3_checkIndex_8e157 [.int p1, .int p2, .null] σ (fun r3 σ2 => P none σ2)))
  (h : ∀ q1 : Nat, (vt_Mi g 0 D_J3_checkIndex_8e157 [.int p1, .int p2, .ref q1] σ (fun r3 σ2 => P none σ2))) :
  TT g (vt_R 1) 0 0 D_J0_checkIndex_df160 none 0 [some (.int p1), some (.int p2)] [] σ P := by
  refine q_iload_n dJ0_checkIndex_df160_0 rfl ?_
  refine q_iload_n dJ0_checkIndex_df160_1 rfl ?_
  refine q_former dJ0_checkIndex_df160_2 fS_RJ0_1053 ?_ (fun q1 => ?_)
  · refine q_cS (d' := 0) [.int p1, .int p2, .null] [] dJ0_checkIndex_df160_5 ok_J3_checkIndex_8e157 mk_RJ0_1059 rfl (Nat.le_of_ble_eq_true rfl) (by first | decide | omega) h0 (fun v σ2 h => ?_)
    obtain ⟨r3, rfl, h⟩ := h
    refine q_pop dJ0_checkIndex_df160_8 rfl ?_
    exact q_vret rfl dJ0_checkIndex_df160_9 h
  · have h := h q1
    refine q_cS (d' := 0) [.int p1, .int p2, .ref q1] [] dJ0_checkIndex_df160_5 ok_J3_checkIndex_8e157 mk_RJ0_1059 rfl (Nat.le_of_ble_eq_true rfl) (by first | decide | omega) h (fun v σ2 h => ?_)
    obtain ⟨r3, rfl, h⟩ := h
    refine q_pop dJ0_checkIndex_df160_8 rfl ?_
    exact q_vret rfl dJ0_checkIndex_df160_9 h

theorem s_J1_charAt_3b067_0 (g : vt_GT) (σ : vt_Sg) (P : Option Value → vt_Sg → Prop) (si : Nat) (so : String) (sk : Nat) (tx : String) (bs : List Int32) (hstr : vt_strs[si]? = some (so, sk, tx, bs)) (p1 : Int32)
  (h : vt_Mv g 1 D_J0_checkIndex_df160 [.int p1, .int (Int32.ofNat bs.length)] σ (fun σ1 => vp_in p1 bs.length ∧ (narrow .char (.int ((((bs.getD p1.toNatClampNeg 0) &&& 255).toUInt32 % 65536).toInt32)) = .int ((((bs.getD p1.toNatClampNeg 0) &&& 255).toUInt32 % 65536).toInt32) ∧ P (some (.int ((((bs.getD p1.toNatClampNeg 0) &&& 255).toUInt32 % 65536).toInt32))) σ1))) :
  TT g (vt_R 2) 0 0 D_J1_charAt_3b067 none 0 [some (.ref (g.2.2.2.2.2 si)), some (.int p1)] [] σ P := by
  refine q_iload_n dJ1_charAt_3b067_0 rfl ?_
  refine q_aload_n dJ1_charAt_3b067_1 rfl ?_
  refine q_slen dJ1_charAt_3b067_2 hstr rfl ?_
  refine q_cS (d' := 1) [.int p1, .int (Int32.ofNat bs.length)] [] dJ1_charAt_3b067_3 ok_J0_checkIndex_df160 mk_RJ1_9 rfl (Nat.le_of_ble_eq_true rfl) (by first | decide | omega) h (fun v σ1 h => ?_)
  obtain ⟨rfl, h⟩ := h
  refine q_aload_n dJ1_charAt_3b067_6 rfl ?_
  refine q_iload_n dJ1_charAt_3b067_7 rfl ?_
  obtain ⟨hi2, h⟩ := h
  refine q_sbald dJ1_charAt_3b067_8 hstr hi2 ?_
  refine q_sipush (v := 255) dJ1_charAt_3b067_9 (by decide) ?_
  refine q_iand dJ1_charAt_3b067_12 ?_
  refine q_i2c dJ1_charAt_3b067_13 ?_
  exact q_iret .char rfl h.1 dJ1_charAt_3b067_14 h.2

theorem s_J1_canEncode_9a6ad_0 (g : vt_GT) (σ : vt_Sg) (P : Option Value → vt_Sg → Prop) (p1 : Int32)
  (h : (p1 < 0 → P (some (.int 0)) σ) ∧ (¬ p1 < 0 → (255 < p1 → P (some (.int 0)) σ) ∧ (¬ 255 < p1 → P (some (.int 1)) σ))) :
  TT g (vt_R 0) 0 0 D_J1_canEncode_9a6ad none 0 [some (.int p1)] [] σ P := by
  refine q_iload_n dJ1_canEncode_9a6ad_0 rfl ?_
  refine q_if_lt (tgt := 15) dJ1_canEncode_9a6ad_1 (by decide) (fun c1 => ?_) (fun c1 => ?_)
  · have h := h.1 c1
    refine q_iconst (v := 0) dJ1_canEncode_9a6ad_15 (by decide) ?_
    exact q_iret .boolean rfl rfl dJ1_canEncode_9a6ad_16 h
  · have h := h.2 c1
    refine q_iload_n dJ1_canEncode_9a6ad_4 rfl ?_
    refine q_sipush (v := 255) dJ1_canEncode_9a6ad_5 (by decide) ?_
    refine q_icmp_gt (tgt := 15) dJ1_canEncode_9a6ad_8 (by decide) (fun c2 => ?_) (fun c2 => ?_)
    · have h := h.1 c2
      refine q_iconst (v := 0) dJ1_canEncode_9a6ad_15 (by decide) ?_
      exact q_iret .boolean rfl rfl dJ1_canEncode_9a6ad_16 h
    · have h := h.2 c2
      refine q_iconst (v := 1) dJ1_canEncode_9a6ad_11 (by decide) ?_
      refine q_goto (tgt := 16) dJ1_canEncode_9a6ad_12 (by decide) ?_
      exact q_iret .boolean rfl rfl dJ1_canEncode_9a6ad_16 h

theorem s_J1_indexOf_4cfef_0 (g : vt_GT) (σ : vt_Sg) (P : Option Value → vt_Sg → Prop) (si : Nat) (so : String) (sk : Nat) (tx : String) (bs : List Int32) (hstr : vt_strs[si]? = some (so, sk, tx, bs)) (p1 : Int32) (p2 : Int32) (p3 : Int32)
  (h : vt_Mi g 0 D_J1_canEncode_9a6ad [.int p1] σ (fun r2 σ1 => (¬ r2 = 0 → ((if p2 < 0 then 0 else p2) < (if (Int32.ofNat bs.length) < p3 then (Int32.ofNat bs.length) else p3) → vt_Mi g 0 D_J1_indexOfChar_4cfef [.ref (g.2.2.2.2.2 si), .int p1, .int (if p2 < 0 then 0 else p2), .int (if (Int32.ofNat bs.length) < p3 then (Int32.ofNat bs.length) else p3)] σ1 (fun r6 σ5 => P (some (.int r6)) σ5)) ∧ (¬ (if p2 < 0 then 0 else p2) < (if (Int32.ofNat bs.length) < p3 then (Int32.ofNat bs.length) else p3) → P (some (.int (-1))) σ1)) ∧ (r2 = 0 → P (some (.int (-1))) σ1))) :
  TT g (vt_R 1) 0 0 D_J1_indexOf_4cfef none 0 [some (.ref (g.2.2.2.2.2 si)), some (.int p1), some (.int p2), some (.int p3)] [] σ P := by
  refine q_iload_n dJ1_indexOf_4cfef_0 rfl ?_
  refine q_cS (d' := 0) [.int p1] [] dJ1_indexOf_4cfef_1 ok_J1_canEncode_9a6ad mk_RJ1_88 rfl (Nat.le_of_ble_eq_true rfl) (by first | decide | omega) h (fun v σ1 h => ?_)
  obtain ⟨r2, rfl, h⟩ := h
  refine q_if_ne (tgt := 9) dJ1_indexOf_4cfef_4 (by decide) (fun c3 => ?_) (fun c3 => ?_)
  · have h := h.1 c3
    refine q_iload_n dJ1_indexOf_4cfef_9 rfl ?_
    refine q_iconst (v := 0) dJ1_indexOf_4cfef_10 (by decide) ?_
    refine q_max dJ1_indexOf_4cfef_11 mk_RJ1_92 sta_max ini_math cod_max (Nat.le_of_ble_eq_true rfl) (by first | decide | omega) ?_
    refine q_istore_n (L' := [some (.ref (g.2.2.2.2.2 si)), some (.int p1), some (.int (if p2 < 0 then 0 else p2)), some (.int p3)]) dJ1_indexOf_4cfef_14 (by decide) rfl rfl ?_
    refine q_iload_n dJ1_indexOf_4cfef_15 rfl ?_
    refine q_aload_n dJ1_indexOf_4cfef_16 rfl ?_
    refine q_slen dJ1_indexOf_4cfef_17 hstr rfl ?_
    refine q_min dJ1_indexOf_4cfef_18 mk_RJ1_38 sta_min ini_math cod_min (Nat.le_of_ble_eq_true rfl) (by first | decide | omega) ?_
    refine q_istore_n (L' := [some (.ref (g.2.2.2.2.2 si)), some (.int p1), some (.int (if p2 < 0 then 0 else p2)), some (.int (if (Int32.ofNat bs.length) < p3 then (Int32.ofNat bs.length) else p3))]) dJ1_indexOf_4cfef_21 (by decide) rfl rfl ?_
    refine q_iload_n dJ1_indexOf_4cfef_22 rfl ?_
    refine q_iload_n dJ1_indexOf_4cfef_23 rfl ?_
    refine q_icmp_lt (tgt := 29) dJ1_indexOf_4cfef_24 (by decide) (fun c4 => ?_) (fun c4 => ?_)
    · have h := h.1 c4
      refine q_aload_n dJ1_indexOf_4cfef_29 rfl ?_
      refine q_iload_n dJ1_indexOf_4cfef_30 rfl ?_
      refine q_iload_n dJ1_indexOf_4cfef_31 rfl ?_
      refine q_iload_n dJ1_indexOf_4cfef_32 rfl ?_
      refine q_cS (d' := 0) [.ref (g.2.2.2.2.2 si), .int p1, .int (if p2 < 0 then 0 else p2), .int (if (Int32.ofNat bs.length) < p3 then (Int32.ofNat bs.length) else p3)] [] dJ1_indexOf_4cfef_33 ok_J1_indexOfChar_4cfef mk_RJ1_95 rfl (Nat.le_of_ble_eq_true rfl) (by first | decide | omega) h (fun v σ5 h => ?_)
      obtain ⟨r6, rfl, h⟩ := h
      exact q_iret .int rfl rfl dJ1_indexOf_4cfef_36 h
    · have h := h.2 c4
      refine q_iconst (v := (-1)) dJ1_indexOf_4cfef_27 (by decide) ?_
      exact q_iret .int rfl rfl dJ1_indexOf_4cfef_28 h
  · have h := h.2 c3
    refine q_iconst (v := (-1)) dJ1_indexOf_4cfef_7 (by decide) ?_
    exact q_iret .int rfl rfl dJ1_indexOf_4cfef_8 h

theorem s_J1_indexOfChar_4cfef_0 (g : vt_GT) (σ : vt_Sg) (P : Option Value → vt_Sg → Prop) (si : Nat) (so : String) (sk : Nat) (tx : String) (bs : List Int32) (hstr : vt_strs[si]? = some (so, sk, tx, bs)) (p1 : Int32) (p2 : Int32) (p3 : Int32)
  (h : TT g (vt_R 0) 0 0 D_J1_indexOfChar_4cfef none 7 [some (.ref (g.2.2.2.2.2 si)), some (.int p1), some (.int p2), some (.int p3), some (.int p1.toInt8.toInt32), some (.int p2)] [] σ P) :
  TT g (vt_R 0) 0 0 D_J1_indexOfChar_4cfef none 0 [some (.ref (g.2.2.2.2.2 si)), some (.int p1), some (.int p2), some (.int p3), none, none] [] σ P := by
  refine q_iload_n dJ1_indexOfChar_4cfef_0 rfl ?_
  refine q_i2b dJ1_indexOfChar_4cfef_1 ?_
  refine q_istore (L' := [some (.ref (g.2.2.2.2.2 si)), some (.int p1), some (.int p2), some (.int p3), some (.int p1.toInt8.toInt32), none]) dJ1_indexOfChar_4cfef_2 (by decide) rfl rfl ?_
  refine q_iload_n dJ1_indexOfChar_4cfef_4 rfl ?_
  refine q_istore (L' := [some (.ref (g.2.2.2.2.2 si)), some (.int p1), some (.int p2), some (.int p3), some (.int p1.toInt8.toInt32), some (.int p2)]) dJ1_indexOfChar_4cfef_5 (by decide) rfl rfl ?_
  exact h

theorem s_J1_indexOfChar_4cfef_7 (g : vt_GT) (σ : vt_Sg) (P : Option Value → vt_Sg → Prop) (si : Nat) (so : String) (sk : Nat) (tx : String) (bs : List Int32) (hstr : vt_strs[si]? = some (so, sk, tx, bs)) (x1 : Int32) (x2 : Int32) (x3 : Int32) (x4 : Int32) (x5 : Int32)
  (h : (x3 ≤ x5 → P (some (.int (-1))) σ) ∧ (¬ x3 ≤ x5 → vp_in x5 bs.length ∧ ((¬ (bs.getD x5.toNatClampNeg 0) = x4 → TT g (vt_R 0) 0 0 D_J1_indexOfChar_4cfef none 7 [some (.ref (g.2.2.2.2.2 si)), some (.int x1), some (.int x2), some (.int x3), some (.int x4), some (.int (x5 + 1))] [] σ P) ∧ ((bs.getD x5.toNatClampNeg 0) = x4 → P (some (.int x5)) σ)))) :
  TT g (vt_R 0) 0 0 D_J1_indexOfChar_4cfef none 7 [some (.ref (g.2.2.2.2.2 si)), some (.int x1), some (.int x2), some (.int x3), some (.int x4), some (.int x5)] [] σ P := by
  refine q_iload dJ1_indexOfChar_4cfef_7 rfl ?_
  refine q_iload_n dJ1_indexOfChar_4cfef_9 rfl ?_
  refine q_icmp_ge (tgt := 31) dJ1_indexOfChar_4cfef_10 (by decide) (fun c1 => ?_) (fun c1 => ?_)
  · have h := h.1 c1
    refine q_iconst (v := (-1)) dJ1_indexOfChar_4cfef_31 (by decide) ?_
    exact q_iret .int rfl rfl dJ1_indexOfChar_4cfef_32 h
  · have h := h.2 c1
    refine q_aload_n dJ1_indexOfChar_4cfef_13 rfl ?_
    refine q_iload dJ1_indexOfChar_4cfef_14 rfl ?_
    obtain ⟨hi2, h⟩ := h
    refine q_sbald dJ1_indexOfChar_4cfef_16 hstr hi2 ?_
    refine q_iload dJ1_indexOfChar_4cfef_17 rfl ?_
    refine q_icmp_ne (tgt := 25) dJ1_indexOfChar_4cfef_19 (by decide) (fun c3 => ?_) (fun c3 => ?_)
    · have h := h.1 c3
      refine q_iinc (L' := [some (.ref (g.2.2.2.2.2 si)), some (.int x1), some (.int x2), some (.int x3), some (.int x4), some (.int (x5 + 1))]) dJ1_indexOfChar_4cfef_25 rfl (by decide) rfl rfl ?_
      refine q_goto (tgt := 7) dJ1_indexOfChar_4cfef_28 (by decide) ?_
      exact h
    · have h := h.2 c3
      refine q_iload dJ1_indexOfChar_4cfef_22 rfl ?_
      exact q_iret .int rfl rfl dJ1_indexOfChar_4cfef_24 h

theorem s_J7_fill_53178_0 (g : vt_GT) (σ : vt_Sg) (P : Option Value → vt_Sg → Prop) (ka na : Nat) (hka : vt_ar ka 0 na) (p1 : Int32)
  (h : TT g (vt_R 0) 0 0 D_J7_fill_53178 none 5 [some (.ref (g.2.1 ka)), some (.int p1), some (.int 0), some (.int (Int32.ofNat na))] [] σ P) :
  TT g (vt_R 0) 0 0 D_J7_fill_53178 none 0 [some (.ref (g.2.1 ka)), some (.int p1), none, none] [] σ P := by
  refine q_iconst (v := 0) dJ7_fill_53178_0 (by decide) ?_
  refine q_istore_n (L' := [some (.ref (g.2.1 ka)), some (.int p1), some (.int 0), none]) dJ7_fill_53178_1 (by decide) rfl rfl ?_
  refine q_aload_n dJ7_fill_53178_2 rfl ?_
  refine q_alen (v := (Int32.ofNat na)) dJ7_fill_53178_3 hka (by decide) rfl ?_
  refine q_istore_n (L' := [some (.ref (g.2.1 ka)), some (.int p1), some (.int 0), some (.int (Int32.ofNat na))]) dJ7_fill_53178_4 (by decide) rfl rfl ?_
  exact h

theorem s_J7_fill_53178_5 (g : vt_GT) (σ : vt_Sg) (P : Option Value → vt_Sg → Prop) (ka na : Nat) (hka : vt_ar ka 0 na) (x1 : Int32) (x2 : Int32) (x3 : Int32)
  (h : (x3 ≤ x2 → P none σ) ∧ (¬ x3 ≤ x2 → vp_in x2 na ∧ (TT g (vt_R 0) 0 0 D_J7_fill_53178 none 5 [some (.ref (g.2.1 ka)), some (.int x1), some (.int (x2 + 1)), some (.int x3)] [] (su σ ka (upd (σ ka) x2.toNatClampNeg x1)) P))) :
  TT g (vt_R 0) 0 0 D_J7_fill_53178 none 5 [some (.ref (g.2.1 ka)), some (.int x1), some (.int x2), some (.int x3)] [] σ P := by
  refine q_iload_n dJ7_fill_53178_5 rfl ?_
  refine q_iload_n dJ7_fill_53178_6 rfl ?_
  refine q_icmp_ge (tgt := 20) dJ7_fill_53178_7 (by decide) (fun c1 => ?_) (fun c1 => ?_)
  · have h := h.1 c1
    exact q_vret rfl dJ7_fill_53178_20 h
  · have h := h.2 c1
    refine q_aload_n dJ7_fill_53178_10 rfl ?_
    refine q_iload_n dJ7_fill_53178_11 rfl ?_
    refine q_iload_n dJ7_fill_53178_12 rfl ?_
    obtain ⟨hi2, h⟩ := h
    refine q_iastX (F := upd (σ ka) x2.toNatClampNeg x1) dJ7_fill_53178_13 hka hi2 rfl ?_
    refine q_iinc (L' := [some (.ref (g.2.1 ka)), some (.int x1), some (.int (x2 + 1)), some (.int x3)]) dJ7_fill_53178_14 rfl (by decide) rfl rfl ?_
    refine q_goto (tgt := 5) dJ7_fill_53178_17 (by decide) ?_
    exact h

theorem s_J7_fill_fb410_0 (g : vt_GT) (σ : vt_Sg) (P : Option Value → vt_Sg → Prop) (ka na : Nat) (hka : vt_ar ka 2 na) (p1 : Int32)
  (h : TT g (vt_R 0) 0 0 D_J7_fill_fb410 none 5 [some (.ref (g.2.1 ka)), some (.int p1), some (.int 0), some (.int (Int32.ofNat na))] [] σ P) :
  TT g (vt_R 0) 0 0 D_J7_fill_fb410 none 0 [some (.ref (g.2.1 ka)), some (.int p1), none, none] [] σ P := by
  refine q_iconst (v := 0) dJ7_fill_fb410_0 (by decide) ?_
  refine q_istore_n (L' := [some (.ref (g.2.1 ka)), some (.int p1), some (.int 0), none]) dJ7_fill_fb410_1 (by decide) rfl rfl ?_
  refine q_aload_n dJ7_fill_fb410_2 rfl ?_
  refine q_alen (v := (Int32.ofNat na)) dJ7_fill_fb410_3 hka (by decide) rfl ?_
  refine q_istore_n (L' := [some (.ref (g.2.1 ka)), some (.int p1), some (.int 0), some (.int (Int32.ofNat na))]) dJ7_fill_fb410_4 (by decide) rfl rfl ?_
  exact h

theorem s_J7_fill_fb410_5 (g : vt_GT) (σ : vt_Sg) (P : Option Value → vt_Sg → Prop) (ka na : Nat) (hka : vt_ar ka 2 na) (x1 : Int32) (x2 : Int32) (x3 : Int32)
  (h : (x3 ≤ x2 → P none σ) ∧ (¬ x3 ≤ x2 → vp_in x2 na ∧ (TT g (vt_R 0) 0 0 D_J7_fill_fb410 none 5 [some (.ref (g.2.1 ka)), some (.int x1), some (.int (x2 + 1)), some (.int x3)] [] (su σ ka (upd (σ ka) x2.toNatClampNeg (vp_nar .short x1))) P))) :
  TT g (vt_R 0) 0 0 D_J7_fill_fb410 none 5 [some (.ref (g.2.1 ka)), some (.int x1), some (.int x2), some (.int x3)] [] σ P := by
  refine q_iload_n dJ7_fill_fb410_5 rfl ?_
  refine q_iload_n dJ7_fill_fb410_6 rfl ?_
  refine q_icmp_ge (tgt := 20) dJ7_fill_fb410_7 (by decide) (fun c1 => ?_) (fun c1 => ?_)
  · have h := h.1 c1
    exact q_vret rfl dJ7_fill_fb410_20 h
  · have h := h.2 c1
    refine q_aload_n dJ7_fill_fb410_10 rfl ?_
    refine q_iload_n dJ7_fill_fb410_11 rfl ?_
    refine q_iload_n dJ7_fill_fb410_12 rfl ?_
    obtain ⟨hi2, h⟩ := h
    refine q_sastX (F := upd (σ ka) x2.toNatClampNeg (vp_nar .short x1)) dJ7_fill_fb410_13 hka hi2 rfl ?_
    refine q_iinc (L' := [some (.ref (g.2.1 ka)), some (.int x1), some (.int (x2 + 1)), some (.int x3)]) dJ7_fill_fb410_14 rfl (by decide) rfl rfl ?_
    refine q_goto (tgt := 5) dJ7_fill_fb410_17 (by decide) ?_
    exact h

theorem s_J3_checkIndex_8e157_0 (g : vt_GT) (σ : vt_Sg) (P : Option Value → vt_Sg → Prop) (q3 : Nat) (p1 : Int32) (p2 : Int32)
  (h : (p1 < 0 → TT g (vt_R 0) 0 0 D_J3_checkIndex_8e157 none 9 [some (.int p1), some (.int p2), some (.ref q3)] [] σ P) ∧ (¬ p1 < 0 → (p1 < p2 → P (some (.int p1)) σ) ∧ (¬ p1 < p2 → TT g (vt_R 0) 0 0 D_J3_checkIndex_8e157 none 9 [some (.int p1), some (.int p2), some (.ref q3)] [] σ P))) :
  TT g (vt_R 0) 0 0 D_J3_checkIndex_8e157 none 0 [some (.int p1), some (.int p2), some (.ref q3)] [] σ P := by
  refine q_iload_n dJ3_checkIndex_8e157_0 rfl ?_
  refine q_if_lt (tgt := 9) dJ3_checkIndex_8e157_1 (by decide) (fun c1 => ?_) (fun c1 => ?_)
  · have h := h.1 c1
    exact h
  · have h := h.2 c1
    refine q_iload_n dJ3_checkIndex_8e157_4 rfl ?_
    refine q_iload_n dJ3_checkIndex_8e157_5 rfl ?_
    refine q_icmp_lt (tgt := 16) dJ3_checkIndex_8e157_6 (by decide) (fun c2 => ?_) (fun c2 => ?_)
    · have h := h.1 c2
      refine q_iload_n dJ3_checkIndex_8e157_16 rfl ?_
      exact q_iret .int rfl rfl dJ3_checkIndex_8e157_17 h
    · have h := h.2 c2
      exact h

theorem s_J3_checkIndex_8e157_0n (g : vt_GT) (σ : vt_Sg) (P : Option Value → vt_Sg → Prop) (p1 : Int32) (p2 : Int32)
  (h : (p1 < 0 → TT g (vt_R 0) 0 0 D_J3_checkIndex_8e157 none 9 [some (.int p1), some (.int p2), some .null] [] σ P) ∧ (¬ p1 < 0 → (p1 < p2 → P (some (.int p1)) σ) ∧ (¬ p1 < p2 → TT g (vt_R 0) 0 0 D_J3_checkIndex_8e157 none 9 [some (.int p1), some (.int p2), some .null] [] σ P))) :
  TT g (vt_R 0) 0 0 D_J3_checkIndex_8e157 none 0 [some (.int p1), some (.int p2), some .null] [] σ P := by
  refine q_iload_n dJ3_checkIndex_8e157_0 rfl ?_
  refine q_if_lt (tgt := 9) dJ3_checkIndex_8e157_1 (by decide) (fun c1 => ?_) (fun c1 => ?_)
  · have h := h.1 c1
    exact h
  · have h := h.2 c1
    refine q_iload_n dJ3_checkIndex_8e157_4 rfl ?_
    refine q_iload_n dJ3_checkIndex_8e157_5 rfl ?_
    refine q_icmp_lt (tgt := 16) dJ3_checkIndex_8e157_6 (by decide) (fun c2 => ?_) (fun c2 => ?_)
    · have h := h.1 c2
      refine q_iload_n dJ3_checkIndex_8e157_16 rfl ?_
      exact q_iret .int rfl rfl dJ3_checkIndex_8e157_17 h
    · have h := h.2 c2
      exact h

theorem s_X0_becomeK_0 (g : vt_GT) (σ : vt_Sg) (P : Option Value → vt_Sg → Prop) 
  (h : vt_Mv g 1 D_X3_become [.ref (g.2.1 57), .ref (g.2.1 4)] (su (su σ 55 (va_cpy (σ 2) (σ 55) 0 0 12)) 56 (va_cpy (σ 3) (σ 56) 0 0 2)) (fun σ1 => vt_Mv g 1 D_X10_become [.ref (g.2.1 60), .ref (g.2.1 7)] σ1 (fun σ2 => vt_Mv g 1 D_X7_become [.ref (g.2.1 68), .ref (g.2.1 15)] σ2 (fun σ3 => vt_Mv g 1 D_X5_become [.ref (g.2.1 72), .ref (g.2.1 19)] σ3 (fun σ4 => vt_Mv g 1 D_X4_become [.ref (g.2.1 78), .ref (g.2.1 25)] σ4 (fun σ5 => P none (su (su (su σ5 106 (va_cpy (σ5 53) (σ5 106) 0 0 12)) 54 (upd (σ5 54) 8 (σ5 1 8))) 54 (upd (upd (σ5 54) 8 (σ5 1 8)) 9 (σ5 1 9))))))))) :
  TT g (vt_R 2) 0 0 D_X0_become none 0 [some (.ref (g.2.1 54)), some (.ref (g.2.1 1))] [] σ P := by
  refine q_aload_n dX0_become_0 rfl ?_
  refine q_getR dX0_become_1 fF_RX0_9 fl_1_0 ?_
  refine q_iconst (v := 0) dX0_become_4 (by decide) ?_
  refine q_aload_n dX0_become_5 rfl ?_
  refine q_getR dX0_become_6 fF_RX0_9 fl_54_0 ?_
  refine q_iconst (v := 0) dX0_become_9 (by decide) ?_
  refine q_bipush (v := 12) dX0_become_10 (by decide) ?_
  refine q_copyX (F := va_cpy (σ 2) (σ 55) 0 0 12) dX0_become_12 mk_RX0_62 nat_copy sta_copy ini_sys ar_2 ar_55 (by decide) (by decide) (by decide) (by decide) (by decide) (by decide) (fun h => absurd h (by decide)) (by decide) rfl ?_
  refine q_aload_n dX0_become_15 rfl ?_
  refine q_getR dX0_become_16 fF_RX0_15 fl_1_1 ?_
  refine q_iconst (v := 0) dX0_become_19 (by decide) ?_
  refine q_aload_n dX0_become_20 rfl ?_
  refine q_getR dX0_become_21 fF_RX0_15 fl_54_1 ?_
  refine q_iconst (v := 0) dX0_become_24 (by decide) ?_
  refine q_iconst (v := 2) dX0_become_25 (by decide) ?_
  refine q_copyX (F := va_cpy (σ 3) (σ 56) 0 0 2) dX0_become_26 mk_RX0_62 nat_copy sta_copy ini_sys ar_3 ar_56 (by decide) (by decide) (by decide) (by decide) (by decide) (by decide) (fun h => absurd h (by decide)) (by decide) rfl ?_
  refine q_aload_n dX0_become_29 rfl ?_
  refine q_getR dX0_become_30 fF_RX0_21 fl_54_2 ?_
  refine q_aload_n dX0_become_33 rfl ?_
  refine q_getR dX0_become_34 fF_RX0_21 fl_1_2 ?_
  refine q_cV (d' := 1) [.ref (g.2.1 4)] [] dX0_become_37 ok_X3_become mk_RX0_68 rc_57 rfl (Nat.le_of_ble_eq_true rfl) (by first | decide | omega) h (fun v σ1 h => ?_)
  obtain ⟨rfl, h⟩ := h
  refine q_aload_n dX0_become_40 rfl ?_
  refine q_getR dX0_become_41 fF_RX0_28 fl_54_3 ?_
  refine q_aload_n dX0_become_44 rfl ?_
  refine q_getR dX0_become_45 fF_RX0_28 fl_1_3 ?_
  refine q_cV (d' := 1) [.ref (g.2.1 7)] [] dX0_become_48 ok_X10_become mk_RX0_72 rc_60 rfl (Nat.le_of_ble_eq_true rfl) (by first | decide | omega) h (fun v σ2 h => ?_)
  obtain ⟨rfl, h⟩ := h
  refine q_aload_n dX0_become_51 rfl ?_
  refine q_getR dX0_become_52 fF_RX0_35 fl_54_4 ?_
  refine q_aload_n dX0_become_55 rfl ?_
  refine q_getR dX0_become_56 fF_RX0_35 fl_1_4 ?_
  refine q_cV (d' := 1) [.ref (g.2.1 15)] [] dX0_become_59 ok_X7_become mk_RX0_75 rc_68 rfl (Nat.le_of_ble_eq_true rfl) (by first | decide | omega) h (fun v σ3 h => ?_)
  obtain ⟨rfl, h⟩ := h
  refine q_aload_n dX0_become_62 rfl ?_
  refine q_getR dX0_become_63 fF_RX0_42 fl_54_5 ?_
  refine q_aload_n dX0_become_66 rfl ?_
  refine q_getR dX0_become_67 fF_RX0_42 fl_1_5 ?_
  refine q_cV (d' := 1) [.ref (g.2.1 19)] [] dX0_become_70 ok_X5_become mk_RX0_78 rc_72 rfl (Nat.le_of_ble_eq_true rfl) (by first | decide | omega) h (fun v σ4 h => ?_)
  obtain ⟨rfl, h⟩ := h
  refine q_aload_n dX0_become_73 rfl ?_
  refine q_getR dX0_become_74 fF_RX0_49 fl_54_6 ?_
  refine q_aload_n dX0_become_77 rfl ?_
  refine q_getR dX0_become_78 fF_RX0_49 fl_1_6 ?_
  refine q_cV (d' := 1) [.ref (g.2.1 25)] [] dX0_become_81 ok_X4_become mk_RX0_81 rc_78 rfl (Nat.le_of_ble_eq_true rfl) (by first | decide | omega) h (fun v σ5 h => ?_)
  obtain ⟨rfl, h⟩ := h
  refine q_aload_n dX0_become_84 rfl ?_
  refine q_getR dX0_become_85 fF_RX0_53 fl_1_7 ?_
  refine q_iconst (v := 0) dX0_become_88 (by decide) ?_
  refine q_aload_n dX0_become_89 rfl ?_
  refine q_getR dX0_become_90 fF_RX0_53 fl_54_7 ?_
  refine q_iconst (v := 0) dX0_become_93 (by decide) ?_
  refine q_bipush (v := 12) dX0_become_94 (by decide) ?_
  refine q_copyX (F := va_cpy (σ5 53) (σ5 106) 0 0 12) dX0_become_96 mk_RX0_62 nat_copy sta_copy ini_sys ar_53 ar_106 (by decide) (by decide) (by decide) (by decide) (by decide) (by decide) (fun h => absurd h (by decide)) (by decide) rfl ?_
  refine q_aload_n dX0_become_99 rfl ?_
  refine q_aload_n dX0_become_100 rfl ?_
  refine q_getX (x := (σ5 1 8)) dX0_become_101 fF_RX0_84 fl_1_8 rfl ?_
  refine q_putX (F := upd (σ5 54) 8 (σ5 1 8)) dX0_become_104 fF_RX0_84 fP_0_8 fl_54_8 rfl ?_
  refine q_aload_n dX0_become_107 rfl ?_
  refine q_aload_n dX0_become_108 rfl ?_
  refine q_getX (x := (σ5 1 9)) dX0_become_109 fF_RX0_88 fl_1_9 rfl ?_
  refine q_putX (F := upd (upd (σ5 54) 8 (σ5 1 8)) 9 (σ5 1 9)) dX0_become_112 fF_RX0_88 fP_0_9 fl_54_9 rfl ?_
  exact q_vret rfl dX0_become_115 h

theorem s_X0_becomeB_0 (g : vt_GT) (σ : vt_Sg) (P : Option Value → vt_Sg → Prop) 
  (h : vt_Mv g 1 D_X3_become [.ref (g.2.1 4), .ref (g.2.1 57)] (su (su σ 2 (va_cpy (σ 55) (σ 2) 0 0 12)) 3 (va_cpy (σ 56) (σ 3) 0 0 2)) (fun σ1 => vt_Mv g 1 D_X10_become [.ref (g.2.1 7), .ref (g.2.1 60)] σ1 (fun σ2 => vt_Mv g 1 D_X7_become [.ref (g.2.1 15), .ref (g.2.1 68)] σ2 (fun σ3 => vt_Mv g 1 D_X5_become [.ref (g.2.1 19), .ref (g.2.1 72)] σ3 (fun σ4 => vt_Mv g 1 D_X4_become [.ref (g.2.1 25), .ref (g.2.1 78)] σ4 (fun σ5 => P none (su (su (su σ5 53 (va_cpy (σ5 106) (σ5 53) 0 0 12)) 1 (upd (σ5 1) 8 (σ5 54 8))) 1 (upd (upd (σ5 1) 8 (σ5 54 8)) 9 (σ5 54 9))))))))) :
  TT g (vt_R 2) 0 0 D_X0_become none 0 [some (.ref (g.2.1 1)), some (.ref (g.2.1 54))] [] σ P := by
  refine q_aload_n dX0_become_0 rfl ?_
  refine q_getR dX0_become_1 fF_RX0_9 fl_54_0 ?_
  refine q_iconst (v := 0) dX0_become_4 (by decide) ?_
  refine q_aload_n dX0_become_5 rfl ?_
  refine q_getR dX0_become_6 fF_RX0_9 fl_1_0 ?_
  refine q_iconst (v := 0) dX0_become_9 (by decide) ?_
  refine q_bipush (v := 12) dX0_become_10 (by decide) ?_
  refine q_copyX (F := va_cpy (σ 55) (σ 2) 0 0 12) dX0_become_12 mk_RX0_62 nat_copy sta_copy ini_sys ar_55 ar_2 (by decide) (by decide) (by decide) (by decide) (by decide) (by decide) (fun h => absurd h (by decide)) (by decide) rfl ?_
  refine q_aload_n dX0_become_15 rfl ?_
  refine q_getR dX0_become_16 fF_RX0_15 fl_54_1 ?_
  refine q_iconst (v := 0) dX0_become_19 (by decide) ?_
  refine q_aload_n dX0_become_20 rfl ?_
  refine q_getR dX0_become_21 fF_RX0_15 fl_1_1 ?_
  refine q_iconst (v := 0) dX0_become_24 (by decide) ?_
  refine q_iconst (v := 2) dX0_become_25 (by decide) ?_
  refine q_copyX (F := va_cpy (σ 56) (σ 3) 0 0 2) dX0_become_26 mk_RX0_62 nat_copy sta_copy ini_sys ar_56 ar_3 (by decide) (by decide) (by decide) (by decide) (by decide) (by decide) (fun h => absurd h (by decide)) (by decide) rfl ?_
  refine q_aload_n dX0_become_29 rfl ?_
  refine q_getR dX0_become_30 fF_RX0_21 fl_1_2 ?_
  refine q_aload_n dX0_become_33 rfl ?_
  refine q_getR dX0_become_34 fF_RX0_21 fl_54_2 ?_
  refine q_cV (d' := 1) [.ref (g.2.1 57)] [] dX0_become_37 ok_X3_become mk_RX0_68 rc_4 rfl (Nat.le_of_ble_eq_true rfl) (by first | decide | omega) h (fun v σ1 h => ?_)
  obtain ⟨rfl, h⟩ := h
  refine q_aload_n dX0_become_40 rfl ?_
  refine q_getR dX0_become_41 fF_RX0_28 fl_1_3 ?_
  refine q_aload_n dX0_become_44 rfl ?_
  refine q_getR dX0_become_45 fF_RX0_28 fl_54_3 ?_
  refine q_cV (d' := 1) [.ref (g.2.1 60)] [] dX0_become_48 ok_X10_become mk_RX0_72 rc_7 rfl (Nat.le_of_ble_eq_true rfl) (by first | decide | omega) h (fun v σ2 h => ?_)
  obtain ⟨rfl, h⟩ := h
  refine q_aload_n dX0_become_51 rfl ?_
  refine q_getR dX0_become_52 fF_RX0_35 fl_1_4 ?_
  refine q_aload_n dX0_become_55 rfl ?_
  refine q_getR dX0_become_56 fF_RX0_35 fl_54_4 ?_
  refine q_cV (d' := 1) [.ref (g.2.1 68)] [] dX0_become_59 ok_X7_become mk_RX0_75 rc_15 rfl (Nat.le_of_ble_eq_true rfl) (by first | decide | omega) h (fun v σ3 h => ?_)
  obtain ⟨rfl, h⟩ := h
  refine q_aload_n dX0_become_62 rfl ?_
  refine q_getR dX0_become_63 fF_RX0_42 fl_1_5 ?_
  refine q_aload_n dX0_become_66 rfl ?_
  refine q_getR dX0_become_67 fF_RX0_42 fl_54_5 ?_
  refine q_cV (d' := 1) [.ref (g.2.1 72)] [] dX0_become_70 ok_X5_become mk_RX0_78 rc_19 rfl (Nat.le_of_ble_eq_true rfl) (by first | decide | omega) h (fun v σ4 h => ?_)
  obtain ⟨rfl, h⟩ := h
  refine q_aload_n dX0_become_73 rfl ?_
  refine q_getR dX0_become_74 fF_RX0_49 fl_1_6 ?_
  refine q_aload_n dX0_become_77 rfl ?_
  refine q_getR dX0_become_78 fF_RX0_49 fl_54_6 ?_
  refine q_cV (d' := 1) [.ref (g.2.1 78)] [] dX0_become_81 ok_X4_become mk_RX0_81 rc_25 rfl (Nat.le_of_ble_eq_true rfl) (by first | decide | omega) h (fun v σ5 h => ?_)
  obtain ⟨rfl, h⟩ := h
  refine q_aload_n dX0_become_84 rfl ?_
  refine q_getR dX0_become_85 fF_RX0_53 fl_54_7 ?_
  refine q_iconst (v := 0) dX0_become_88 (by decide) ?_
  refine q_aload_n dX0_become_89 rfl ?_
  refine q_getR dX0_become_90 fF_RX0_53 fl_1_7 ?_
  refine q_iconst (v := 0) dX0_become_93 (by decide) ?_
  refine q_bipush (v := 12) dX0_become_94 (by decide) ?_
  refine q_copyX (F := va_cpy (σ5 106) (σ5 53) 0 0 12) dX0_become_96 mk_RX0_62 nat_copy sta_copy ini_sys ar_106 ar_53 (by decide) (by decide) (by decide) (by decide) (by decide) (by decide) (fun h => absurd h (by decide)) (by decide) rfl ?_
  refine q_aload_n dX0_become_99 rfl ?_
  refine q_aload_n dX0_become_100 rfl ?_
  refine q_getX (x := (σ5 54 8)) dX0_become_101 fF_RX0_84 fl_54_8 rfl ?_
  refine q_putX (F := upd (σ5 1) 8 (σ5 54 8)) dX0_become_104 fF_RX0_84 fP_0_8 fl_1_8 rfl ?_
  refine q_aload_n dX0_become_107 rfl ?_
  refine q_aload_n dX0_become_108 rfl ?_
  refine q_getX (x := (σ5 54 9)) dX0_become_109 fF_RX0_88 fl_54_9 rfl ?_
  refine q_putX (F := upd (upd (σ5 1) 8 (σ5 54 8)) 9 (σ5 54 9)) dX0_become_112 fF_RX0_88 fP_0_9 fl_1_9 rfl ?_
  exact q_vret rfl dX0_become_115 h

theorem s_X1_work_0 (g : vt_GT) (σ : vt_Sg) (P : Option Value → vt_Sg → Prop) (p2 : Int32) (p3 : Int32) (p4 : Int32)
  (h : (¬ p3 = 0 → vp_in p2 12 ∧ (vp_in (p3 - 1) 3 ∧ (vp_in p3 3 ∧ (TT g (vt_R 3) 0 0 D_X1_work none 50 [some (.ref (g.2.1 121)), some (.ref (g.2.1 116)), some (.int p2), some (.int p3), some (.int p4), some (.ref (g.2.1 25)), some (.int ((σ (41 + p2.toNatClampNeg)) (p3 - 1).toNatClampNeg)), some (.int ((σ (41 + p2.toNatClampNeg)) p3.toNatClampNeg)), some (.int ((σ (41 + p2.toNatClampNeg)) (p3 - 1).toNatClampNeg)), none] [] (su σ 121 (upd (σ 121) 1 0)) P)))) ∧ (p3 = 0 → vp_in p2 12 ∧ (vp_in p3 3 ∧ (TT g (vt_R 3) 0 0 D_X1_work none 50 [some (.ref (g.2.1 121)), some (.ref (g.2.1 116)), some (.int p2), some (.int p3), some (.int p4), some (.ref (g.2.1 25)), some (.int 0), some (.int ((σ (41 + p2.toNatClampNeg)) p3.toNatClampNeg)), some (.int 0), none] [] (su σ 121 (upd (σ 121) 1 0)) P)))) :
  TT g (vt_R 3) 0 0 D_X1_work none 0 [some (.ref (g.2.1 121)), some (.ref (g.2.1 116)), some (.int p2), some (.int p3), some (.int p4), none, none, none, none, none] [] σ P := by
  refine q_aload_n dX1_work_0 rfl ?_
  refine q_getR dX1_work_1 fF_RX1_15 fl_116_0 ?_
  refine q_getR dX1_work_4 fF_RX1_21 fl_1_6 ?_
  refine q_astore (L' := [some (.ref (g.2.1 121)), some (.ref (g.2.1 116)), some (.int p2), some (.int p3), some (.int p4), some (.ref (g.2.1 25)), none, none, none, none]) dX1_work_7 (by decide) rfl rfl ?_
  refine q_iload_n dX1_work_9 rfl ?_
  refine q_if_ne (tgt := 17) dX1_work_10 (by decide) (fun c1 => ?_) (fun c1 => ?_)
  · have h := h.1 c1
    refine q_aload dX1_work_17 rfl ?_
    refine q_getR dX1_work_19 fF_RX1_27 fl_25_2 ?_
    refine q_iload_n dX1_work_22 rfl ?_
    obtain ⟨hi2, h⟩ := h
    refine q_aald dX1_work_23 ar2_40 (by decide) hi2 ?_
    refine q_iload_n dX1_work_24 rfl ?_
    refine q_iconst (v := 1) dX1_work_25 (by decide) ?_
    refine q_isub dX1_work_26 ?_
    obtain ⟨hi3, h⟩ := h
    refine q_ialdX (v := ((σ (41 + p2.toNatClampNeg)) (p3 - 1).toNatClampNeg)) dX1_work_27 (rw_40 hi2) hi3 rfl ?_
    refine q_istore (L' := [some (.ref (g.2.1 121)), some (.ref (g.2.1 116)), some (.int p2), some (.int p3), some (.int p4), some (.ref (g.2.1 25)), some (.int ((σ (41 + p2.toNatClampNeg)) (p3 - 1).toNatClampNeg)), none, none, none]) dX1_work_28 (by decide) rfl rfl ?_
    refine q_aload dX1_work_30 rfl ?_
    refine q_getR dX1_work_32 fF_RX1_27 fl_25_2 ?_
    refine q_iload_n dX1_work_35 rfl ?_
    refine q_aald dX1_work_36 ar2_40 (by decide) hi2 ?_
    refine q_iload_n dX1_work_37 rfl ?_
    obtain ⟨hi4, h⟩ := h
    refine q_ialdX (v := ((σ (41 + p2.toNatClampNeg)) p3.toNatClampNeg)) dX1_work_38 (rw_40 hi2) hi4 rfl ?_
    refine q_istore (L' := [some (.ref (g.2.1 121)), some (.ref (g.2.1 116)), some (.int p2), some (.int p3), some (.int p4), some (.ref (g.2.1 25)), some (.int ((σ (41 + p2.toNatClampNeg)) (p3 - 1).toNatClampNeg)), some (.int ((σ (41 + p2.toNatClampNeg)) p3.toNatClampNeg)), none, none]) dX1_work_39 (by decide) rfl rfl ?_
    refine q_aload_n dX1_work_41 rfl ?_
    refine q_iconst (v := 0) dX1_work_42 (by decide) ?_
    refine q_putX (F := upd (σ 121) 1 0) dX1_work_43 fF_RX1_33 fP_1_1 fl_121_1 rfl ?_
    refine q_iload dX1_work_46 rfl ?_
    refine q_istore (L' := [some (.ref (g.2.1 121)), some (.ref (g.2.1 116)), some (.int p2), some (.int p3), some (.int p4), some (.ref (g.2.1 25)), some (.int ((σ (41 + p2.toNatClampNeg)) (p3 - 1).toNatClampNeg)), some (.int ((σ (41 + p2.toNatClampNeg)) p3.toNatClampNeg)), some (.int ((σ (41 + p2.toNatClampNeg)) (p3 - 1).toNatClampNeg)), none]) dX1_work_48 (by decide) rfl rfl ?_
    exact h
  · have h := h.2 c1
    refine q_iconst (v := 0) dX1_work_13 (by decide) ?_
    refine q_goto (tgt := 28) dX1_work_14 (by decide) ?_
    refine q_istore (L' := [some (.ref (g.2.1 121)), some (.ref (g.2.1 116)), some (.int p2), some (.int p3), some (.int p4), some (.ref (g.2.1 25)), some (.int 0), none, none, none]) dX1_work_28 (by decide) rfl rfl ?_
    refine q_aload dX1_work_30 rfl ?_
    refine q_getR dX1_work_32 fF_RX1_27 fl_25_2 ?_
    refine q_iload_n dX1_work_35 rfl ?_
    obtain ⟨hi5, h⟩ := h
    refine q_aald dX1_work_36 ar2_40 (by decide) hi5 ?_
    refine q_iload_n dX1_work_37 rfl ?_
    obtain ⟨hi6, h⟩ := h
    refine q_ialdX (v := ((σ (41 + p2.toNatClampNeg)) p3.toNatClampNeg)) dX1_work_38 (rw_40 hi5) hi6 rfl ?_
    refine q_istore (L' := [some (.ref (g.2.1 121)), some (.ref (g.2.1 116)), some (.int p2), some (.int p3), some (.int p4), some (.ref (g.2.1 25)), some (.int 0), some (.int ((σ (41 + p2.toNatClampNeg)) p3.toNatClampNeg)), none, none]) dX1_work_39 (by decide) rfl rfl ?_
    refine q_aload_n dX1_work_41 rfl ?_
    refine q_iconst (v := 0) dX1_work_42 (by decide) ?_
    refine q_putX (F := upd (σ 121) 1 0) dX1_work_43 fF_RX1_33 fP_1_1 fl_121_1 rfl ?_
    refine q_iload dX1_work_46 rfl ?_
    refine q_istore (L' := [some (.ref (g.2.1 121)), some (.ref (g.2.1 116)), some (.int p2), some (.int p3), some (.int p4), some (.ref (g.2.1 25)), some (.int 0), some (.int ((σ (41 + p2.toNatClampNeg)) p3.toNatClampNeg)), some (.int 0), none]) dX1_work_48 (by decide) rfl rfl ?_
    exact h

theorem s_X1_work_50 (g : vt_GT) (σ : vt_Sg) (P : Option Value → vt_Sg → Prop) (x2 : Int32) (x3 : Int32) (x4 : Int32) (x6 : Int32) (x7 : Int32) (x8 : Int32)
  (h : (x7 ≤ x8 → ((σ 121 1) ≤ 0 → P (some (.int 0)) σ) ∧ (¬ (σ 121 1) ≤ 0 → vp_in ((σ 121 1) - 1) 132 ∧ (P (some (.int (σ 122 ((σ 121 1) - 1).toNatClampNeg))) σ))) ∧ (¬ x7 ≤ x8 → vp_in x2 12 ∧ (vp_in x8 132 ∧ ((((σ (28 + x2.toNatClampNeg)) x8.toNatClampNeg) < 0 → ((-97) < ((σ (28 + x2.toNatClampNeg)) x8.toNatClampNeg) → vt_Mv g 1 D_X1_apply [.ref (g.2.1 121), .int (-((σ (28 + x2.toNatClampNeg)) x8.toNatClampNeg))] σ (fun σ8 => TT g (vt_R 3) 0 0 D_X1_work none 50 [some (.ref (g.2.1 121)), some (.ref (g.2.1 116)), some (.int x2), some (.int x3), some (.int x4), some (.ref (g.2.1 25)), some (.int x6), some (.int x7), some (.int (x8 + 1)), none] [] σ8 P)) ∧ (¬ (-97) < ((σ (28 + x2.toNatClampNeg)) x8.toNatClampNeg) → (((σ (28 + x2.toNatClampNeg)) x8.toNatClampNeg) < (-122) → vt_Mv g 1 D_X1_apply [.ref (g.2.1 121), .int (-((σ (28 + x2.toNatClampNeg)) x8.toNatClampNeg))] σ (fun σ10 => TT g (vt_R 3) 0 0 D_X1_work none 50 [some (.ref (g.2.1 121)), some (.ref (g.2.1 116)), some (.int x2), some (.int x3), some (.int x4), some (.ref (g.2.1 25)), some (.int x6), some (.int x7), some (.int (x8 + 1)), none] [] σ10 P)) ∧ (¬ ((σ (28 + x2.toNatClampNeg)) x8.toNatClampNeg) < (-122) → vt_Mi g 2 D_X1_valueOf [.int (-((σ (28 + x2.toNatClampNeg)) x8.toNatClampNeg)), .ref (g.2.1 116), .int x2, .int x4] σ (fun r12 σ11 => vt_Mv g 0 D_X1_push [.ref (g.2.1 121), .int r12] σ11 (fun σ13 => TT g (vt_R 3) 0 0 D_X1_work none 50 [some (.ref (g.2.1 121)), some (.ref (g.2.1 116)), some (.int x2), some (.int x3), some (.int x4), some (.ref (g.2.1 25)), some (.int x6), some (.int x7), some (.int (x8 + 1)), none] [] σ13 P))))) ∧ (¬ ((σ (28 + x2.toNatClampNeg)) x8.toNatClampNeg) < 0 → vt_Mv g 0 D_X1_push [.ref (g.2.1 121), .int ((σ (28 + x2.toNatClampNeg)) x8.toNatClampNeg)] σ (fun σ14 => TT g (vt_R 3) 0 0 D_X1_work none 50 [some (.ref (g.2.1 121)), some (.ref (g.2.1 116)), some (.int x2), some (.int x3), some (.int x4), some (.ref (g.2.1 25)), some (.int x6), some (.int x7), some (.int (x8 + 1)), none] [] σ14 P)))))) :
  TT g (vt_R 3) 0 0 D_X1_work none 50 [some (.ref (g.2.1 121)), some (.ref (g.2.1 116)), some (.int x2), some (.int x3), some (.int x4), some (.ref (g.2.1 25)), some (.int x6), some (.int x7), some (.int x8), none] [] σ P := by
  refine q_iload dX1_work_50 rfl ?_
  refine q_iload dX1_work_52 rfl ?_
  refine q_icmp_ge (tgt := 127) dX1_work_54 (by decide) (fun c1 => ?_) (fun c1 => ?_)
  · have h := h.1 c1
    refine q_aload_n dX1_work_127 rfl ?_
    refine q_getX (x := (σ 121 1)) dX1_work_128 fF_RX1_33 fl_121_1 rfl ?_
    refine q_if_le (tgt := 148) dX1_work_131 (by decide) (fun c2 => ?_) (fun c2 => ?_)
    · have h := h.1 c2
      refine q_iconst (v := 0) dX1_work_148 (by decide) ?_
      exact q_iret .int rfl rfl dX1_work_149 h
    · have h := h.2 c2
      refine q_aload_n dX1_work_134 rfl ?_
      refine q_getR dX1_work_135 fF_RX1_9 fl_121_0 ?_
      refine q_aload_n dX1_work_138 rfl ?_
      refine q_getX (x := (σ 121 1)) dX1_work_139 fF_RX1_33 fl_121_1 rfl ?_
      refine q_iconst (v := 1) dX1_work_142 (by decide) ?_
      refine q_isub dX1_work_143 ?_
      obtain ⟨hi3, h⟩ := h
      refine q_ialdX (v := (σ 122 ((σ 121 1) - 1).toNatClampNeg)) dX1_work_144 ar_122 hi3 rfl ?_
      refine q_goto (tgt := 149) dX1_work_145 (by decide) ?_
      exact q_iret .int rfl rfl dX1_work_149 h
  · have h := h.2 c1
    refine q_aload dX1_work_57 rfl ?_
    refine q_getR dX1_work_59 fF_RX1_37 fl_25_1 ?_
    refine q_iload_n dX1_work_62 rfl ?_
    obtain ⟨hi4, h⟩ := h
    refine q_aald dX1_work_63 ar2_27 (by decide) hi4 ?_
    refine q_iload dX1_work_64 rfl ?_
    obtain ⟨hi5, h⟩ := h
    refine q_ialdX (v := ((σ (28 + x2.toNatClampNeg)) x8.toNatClampNeg)) dX1_work_66 (rw_27 hi4) hi5 rfl ?_
    refine q_istore (L' := [some (.ref (g.2.1 121)), some (.ref (g.2.1 116)), some (.int x2), some (.int x3), some (.int x4), some (.ref (g.2.1 25)), some (.int x6), some (.int x7), some (.int x8), some (.int ((σ (28 + x2.toNatClampNeg)) x8.toNatClampNeg))]) dX1_work_67 (by decide) rfl rfl ?_
    refine q_iload dX1_work_69 rfl ?_
    refine q_if_lt (tgt := 83) dX1_work_71 (by decide) (fun c6 => ?_) (fun c6 => ?_)
    · have h := h.1 c6
      refine q_iload dX1_work_83 rfl ?_
      refine q_bipush (v := (-97)) dX1_work_85 (by decide) ?_
      refine q_icmp_gt (tgt := 114) dX1_work_87 (by decide) (fun c7 => ?_) (fun c7 => ?_)
      · have h := h.1 c7
        refine q_aload_n dX1_work_114 rfl ?_
        refine q_iload dX1_work_115 rfl ?_
        refine q_ineg dX1_work_117 ?_
        refine q_cV (d' := 1) [.int (-((σ (28 + x2.toNatClampNeg)) x8.toNatClampNeg))] [] dX1_work_118 ok_X1_apply mk_RX1_48 rc_121 rfl (Nat.le_of_ble_eq_true rfl) (by first | decide | omega) h (fun v σ8 h => ?_)
        obtain ⟨rfl, h⟩ := h
        refine q_iinc (L' := [some (.ref (g.2.1 121)), some (.ref (g.2.1 116)), some (.int x2), some (.int x3), some (.int x4), some (.ref (g.2.1 25)), some (.int x6), some (.int x7), some (.int (x8 + 1)), some (.int ((σ (28 + x2.toNatClampNeg)) x8.toNatClampNeg))]) dX1_work_121 rfl (by decide) rfl rfl ?_
        refine q_goto (tgt := 50) dX1_work_124 (by decide) ?_
        exact q_wk (by simp [vt_le]) h
      · have h := h.2 c7
        refine q_iload dX1_work_90 rfl ?_
        refine q_bipush (v := (-122)) dX1_work_92 (by decide) ?_
        refine q_icmp_lt (tgt := 114) dX1_work_94 (by decide) (fun c9 => ?_) (fun c9 => ?_)
        · have h := h.1 c9
          refine q_aload_n dX1_work_114 rfl ?_
          refine q_iload dX1_work_115 rfl ?_
          refine q_ineg dX1_work_117 ?_
          refine q_cV (d' := 1) [.int (-((σ (28 + x2.toNatClampNeg)) x8.toNatClampNeg))] [] dX1_work_118 ok_X1_apply mk_RX1_48 rc_121 rfl (Nat.le_of_ble_eq_true rfl) (by first | decide | omega) h (fun v σ10 h => ?_)
          obtain ⟨rfl, h⟩ := h
          refine q_iinc (L' := [some (.ref (g.2.1 121)), some (.ref (g.2.1 116)), some (.int x2), some (.int x3), some (.int x4), some (.ref (g.2.1 25)), some (.int x6), some (.int x7), some (.int (x8 + 1)), some (.int ((σ (28 + x2.toNatClampNeg)) x8.toNatClampNeg))]) dX1_work_121 rfl (by decide) rfl rfl ?_
          refine q_goto (tgt := 50) dX1_work_124 (by decide) ?_
          exact q_wk (by simp [vt_le]) h
        · have h := h.2 c9
          refine q_aload_n dX1_work_97 rfl ?_
          refine q_iload dX1_work_98 rfl ?_
          refine q_ineg dX1_work_100 ?_
          refine q_aload_n dX1_work_101 rfl ?_
          refine q_iload_n dX1_work_102 rfl ?_
          refine q_iload dX1_work_103 rfl ?_
          refine q_cS (d' := 2) [.int (-((σ (28 + x2.toNatClampNeg)) x8.toNatClampNeg)), .ref (g.2.1 116), .int x2, .int x4] [.ref (g.2.1 121)] dX1_work_105 ok_X1_valueOf mk_RX1_44 rfl (Nat.le_of_ble_eq_true rfl) (by first | decide | omega) h (fun v σ11 h => ?_)
          obtain ⟨r12, rfl, h⟩ := h
          refine q_cV (d' := 0) [.int r12] [] dX1_work_108 ok_X1_push mk_RX1_40 rc_121 rfl (Nat.le_of_ble_eq_true rfl) (by first | decide | omega) h (fun v σ13 h => ?_)
          obtain ⟨rfl, h⟩ := h
          refine q_goto (tgt := 121) dX1_work_111 (by decide) ?_
          refine q_iinc (L' := [some (.ref (g.2.1 121)), some (.ref (g.2.1 116)), some (.int x2), some (.int x3), some (.int x4), some (.ref (g.2.1 25)), some (.int x6), some (.int x7), some (.int (x8 + 1)), some (.int ((σ (28 + x2.toNatClampNeg)) x8.toNatClampNeg))]) dX1_work_121 rfl (by decide) rfl rfl ?_
          refine q_goto (tgt := 50) dX1_work_124 (by decide) ?_
          exact q_wk (by simp [vt_le]) h
    · have h := h.2 c6
      refine q_aload_n dX1_work_74 rfl ?_
      refine q_iload dX1_work_75 rfl ?_
      refine q_cV (d' := 0) [.int ((σ (28 + x2.toNatClampNeg)) x8.toNatClampNeg)] [] dX1_work_77 ok_X1_push mk_RX1_40 rc_121 rfl (Nat.le_of_ble_eq_true rfl) (by first | decide | omega) h (fun v σ14 h => ?_)
      obtain ⟨rfl, h⟩ := h
      refine q_goto (tgt := 121) dX1_work_80 (by decide) ?_
      refine q_iinc (L' := [some (.ref (g.2.1 121)), some (.ref (g.2.1 116)), some (.int x2), some (.int x3), some (.int x4), some (.ref (g.2.1 25)), some (.int x6), some (.int x7), some (.int (x8 + 1)), some (.int ((σ (28 + x2.toNatClampNeg)) x8.toNatClampNeg))]) dX1_work_121 rfl (by decide) rfl rfl ?_
      refine q_goto (tgt := 50) dX1_work_124 (by decide) ?_
      exact q_wk (by simp [vt_le]) h

theorem s_X1_push_0 (g : vt_GT) (σ : vt_Sg) (P : Option Value → vt_Sg → Prop) (p1 : Int32)
  (h : (132 ≤ (σ 121 1) → P none σ) ∧ (¬ 132 ≤ (σ 121 1) → vp_in (σ 121 1) 132 ∧ (P none (su (su σ 122 (upd (σ 122) ((σ 121 1).toNatClampNeg) p1)) 121 (upd (σ 121) 1 ((σ 121 1) + 1)))))) :
  TT g (vt_R 0) 0 0 D_X1_push none 0 [some (.ref (g.2.1 121)), some (.int p1)] [] σ P := by
  refine q_aload_n dX1_push_0 rfl ?_
  refine q_getX (x := (σ 121 1)) dX1_push_1 fF_RX1_33 fl_121_1 rfl ?_
  refine q_sipush (v := 132) dX1_push_4 (by decide) ?_
  refine q_icmp_ge (tgt := 30) dX1_push_7 (by decide) (fun c1 => ?_) (fun c1 => ?_)
  · have h := h.1 c1
    exact q_vret rfl dX1_push_30 h
  · have h := h.2 c1
    refine q_aload_n dX1_push_10 rfl ?_
    refine q_getR dX1_push_11 fF_RX1_9 fl_121_0 ?_
    refine q_aload_n dX1_push_14 rfl ?_
    refine q_getX (x := (σ 121 1)) dX1_push_15 fF_RX1_33 fl_121_1 rfl ?_
    refine q_iload_n dX1_push_18 rfl ?_
    obtain ⟨hi2, h⟩ := h
    refine q_iastX (F := upd (σ 122) ((σ 121 1).toNatClampNeg) p1) dX1_push_19 ar_122 hi2 rfl ?_
    refine q_aload_n dX1_push_20 rfl ?_
    refine q_dup dX1_push_21 rfl ?_
    refine q_getX (x := (σ 121 1)) dX1_push_22 fF_RX1_33 fl_121_1 rfl ?_
    refine q_iconst (v := 1) dX1_push_25 (by decide) ?_
    refine q_iadd dX1_push_26 ?_
    refine q_putX (F := upd (σ 121) 1 ((σ 121 1) + 1)) dX1_push_27 fF_RX1_33 fP_1_1 fl_121_1 rfl ?_
    exact q_vret rfl dX1_push_30 h

theorem s_X1_apply_0 (g : vt_GT) (σ : vt_Sg) (P : Option Value → vt_Sg → Prop) (p1 : Int32)
  (h : (¬ p1 = 33 → ((σ 121 1) < 2 → P none σ) ∧ (¬ (σ 121 1) < 2 → vp_in (((σ 121 1) - 1) - 1) 132 ∧ (vp_in ((σ 121 1) - 1) 132 ∧ (P none (su (su σ 121 (upd (σ 121) 1 ((σ 121 1) - 1))) 122 (upd (σ 122) ((((σ 121 1) - 1) - 1).toNatClampNeg) (jn p1 (σ 122 (((σ 121 1) - 1) - 1).toNatClampNeg) (σ 122 ((σ 121 1) - 1).toNatClampNeg)))))))) ∧ (p1 = 33 → ((σ 121 1) < 1 → ((σ 121 1) < 2 → P none σ) ∧ (¬ (σ 121 1) < 2 → vp_in (((σ 121 1) - 1) - 1) 132 ∧ (vp_in ((σ 121 1) - 1) 132 ∧ (P none (su (su σ 121 (upd (σ 121) 1 ((σ 121 1) - 1))) 122 (upd (σ 122) ((((σ 121 1) - 1) - 1).toNatClampNeg) (jn p1 (σ 122 (((σ 121 1) - 1) - 1).toNatClampNeg) (σ 122 ((σ 121 1) - 1).toNatClampNeg)))))))) ∧ (¬ (σ 121 1) < 1 → vp_in ((σ 121 1) - 1) 132 ∧ ((¬ (σ 122 ((σ 121 1) - 1).toNatClampNeg) = 0 → P none (su σ 122 (upd (σ 122) (((σ 121 1) - 1).toNatClampNeg) 0))) ∧ ((σ 122 ((σ 121 1) - 1).toNatClampNeg) = 0 → P none (su σ 122 (upd (σ 122) (((σ 121 1) - 1).toNatClampNeg) 1))))))) :
  TT g (vt_R 1) 0 0 D_X1_apply none 0 [some (.ref (g.2.1 121)), some (.int p1)] [] σ P := by
  refine q_iload_n dX1_apply_0 rfl ?_
  refine q_bipush (v := 33) dX1_apply_1 (by decide) ?_
  refine q_icmp_ne (tgt := 47) dX1_apply_3 (by decide) (fun c1 => ?_) (fun c1 => ?_)
  · have h := h.1 c1
    refine q_aload_n dX1_apply_47 rfl ?_
    refine q_getX (x := (σ 121 1)) dX1_apply_48 fF_RX1_33 fl_121_1 rfl ?_
    refine q_iconst (v := 2) dX1_apply_51 (by decide) ?_
    refine q_icmp_lt (tgt := 100) dX1_apply_52 (by decide) (fun c2 => ?_) (fun c2 => ?_)
    · have h := h.1 c2
      exact q_vret rfl dX1_apply_100 h
    · have h := h.2 c2
      refine q_aload_n dX1_apply_55 rfl ?_
      refine q_dup dX1_apply_56 rfl ?_
      refine q_getX (x := (σ 121 1)) dX1_apply_57 fF_RX1_33 fl_121_1 rfl ?_
      refine q_iconst (v := 1) dX1_apply_60 (by decide) ?_
      refine q_isub dX1_apply_61 ?_
      refine q_putX (F := upd (σ 121) 1 ((σ 121 1) - 1)) dX1_apply_62 fF_RX1_33 fP_1_1 fl_121_1 rfl ?_
      refine q_aload_n dX1_apply_65 rfl ?_
      refine q_getR dX1_apply_66 fF_RX1_9 fl_121_0 ?_
      refine q_aload_n dX1_apply_69 rfl ?_
      refine q_getX (x := ((σ 121 1) - 1)) dX1_apply_70 fF_RX1_33 fl_121_1 rfl ?_
      refine q_iconst (v := 1) dX1_apply_73 (by decide) ?_
      refine q_isub dX1_apply_74 ?_
      refine q_iload_n dX1_apply_75 rfl ?_
      refine q_aload_n dX1_apply_76 rfl ?_
      refine q_getR dX1_apply_77 fF_RX1_9 fl_121_0 ?_
      refine q_aload_n dX1_apply_80 rfl ?_
      refine q_getX (x := ((σ 121 1) - 1)) dX1_apply_81 fF_RX1_33 fl_121_1 rfl ?_
      refine q_iconst (v := 1) dX1_apply_84 (by decide) ?_
      refine q_isub dX1_apply_85 ?_
      obtain ⟨hi3, h⟩ := h
      refine q_ialdX (v := (σ 122 (((σ 121 1) - 1) - 1).toNatClampNeg)) dX1_apply_86 ar_122 hi3 rfl ?_
      refine q_aload_n dX1_apply_87 rfl ?_
      refine q_getR dX1_apply_88 fF_RX1_9 fl_121_0 ?_
      refine q_aload_n dX1_apply_91 rfl ?_
      refine q_getX (x := ((σ 121 1) - 1)) dX1_apply_92 fF_RX1_33 fl_121_1 rfl ?_
      obtain ⟨hi4, h⟩ := h
      refine q_ialdX (v := (σ 122 ((σ 121 1) - 1).toNatClampNeg)) dX1_apply_95 ar_122 hi4 rfl ?_
      refine q_cSi (e := (jn p1 (σ 122 (((σ 121 1) - 1) - 1).toNatClampNeg) (σ 122 ((σ 121 1) - 1).toNatClampNeg))) (d' := 0) [.int p1, .int (σ 122 (((σ 121 1) - 1) - 1).toNatClampNeg), .int (σ 122 ((σ 121 1) - 1).toNatClampNeg)] [.int (((σ 121 1) - 1) - 1), .ref (g.2.1 122)] dX1_apply_96 ok_X1_join mk_RX1_51 rfl (Nat.le_of_ble_eq_true rfl) (by first | decide | omega) (fun Φ h9 => c_X1_join (σ := su σ 121 (upd (σ 121) 1 ((σ 121 1) - 1))) Φ h9) ?_
      refine q_iastX (F := upd (σ 122) ((((σ 121 1) - 1) - 1).toNatClampNeg) (jn p1 (σ 122 (((σ 121 1) - 1) - 1).toNatClampNeg) (σ 122 ((σ 121 1) - 1).toNatClampNeg))) dX1_apply_99 ar_122 hi3 rfl ?_
      exact q_vret rfl dX1_apply_100 h
  · have h := h.2 c1
    refine q_aload_n dX1_apply_6 rfl ?_
    refine q_getX (x := (σ 121 1)) dX1_apply_7 fF_RX1_33 fl_121_1 rfl ?_
    refine q_iconst (v := 1) dX1_apply_10 (by decide) ?_
    refine q_icmp_lt (tgt := 47) dX1_apply_11 (by decide) (fun c5 => ?_) (fun c5 => ?_)
    · have h := h.1 c5
      refine q_aload_n dX1_apply_47 rfl ?_
      refine q_getX (x := (σ 121 1)) dX1_apply_48 fF_RX1_33 fl_121_1 rfl ?_
      refine q_iconst (v := 2) dX1_apply_51 (by decide) ?_
      refine q_icmp_lt (tgt := 100) dX1_apply_52 (by decide) (fun c6 => ?_) (fun c6 => ?_)
      · have h := h.1 c6
        exact q_vret rfl dX1_apply_100 h
      · have h := h.2 c6
        refine q_aload_n dX1_apply_55 rfl ?_
        refine q_dup dX1_apply_56 rfl ?_
        refine q_getX (x := (σ 121 1)) dX1_apply_57 fF_RX1_33 fl_121_1 rfl ?_
        refine q_iconst (v := 1) dX1_apply_60 (by decide) ?_
        refine q_isub dX1_apply_61 ?_
        refine q_putX (F := upd (σ 121) 1 ((σ 121 1) - 1)) dX1_apply_62 fF_RX1_33 fP_1_1 fl_121_1 rfl ?_
        refine q_aload_n dX1_apply_65 rfl ?_
        refine q_getR dX1_apply_66 fF_RX1_9 fl_121_0 ?_
        refine q_aload_n dX1_apply_69 rfl ?_
        refine q_getX (x := ((σ 121 1) - 1)) dX1_apply_70 fF_RX1_33 fl_121_1 rfl ?_
        refine q_iconst (v := 1) dX1_apply_73 (by decide) ?_
        refine q_isub dX1_apply_74 ?_
        refine q_iload_n dX1_apply_75 rfl ?_
        refine q_aload_n dX1_apply_76 rfl ?_
        refine q_getR dX1_apply_77 fF_RX1_9 fl_121_0 ?_
        refine q_aload_n dX1_apply_80 rfl ?_
        refine q_getX (x := ((σ 121 1) - 1)) dX1_apply_81 fF_RX1_33 fl_121_1 rfl ?_
        refine q_iconst (v := 1) dX1_apply_84 (by decide) ?_
        refine q_isub dX1_apply_85 ?_
        obtain ⟨hi7, h⟩ := h
        refine q_ialdX (v := (σ 122 (((σ 121 1) - 1) - 1).toNatClampNeg)) dX1_apply_86 ar_122 hi7 rfl ?_
        refine q_aload_n dX1_apply_87 rfl ?_
        refine q_getR dX1_apply_88 fF_RX1_9 fl_121_0 ?_
        refine q_aload_n dX1_apply_91 rfl ?_
        refine q_getX (x := ((σ 121 1) - 1)) dX1_apply_92 fF_RX1_33 fl_121_1 rfl ?_
        obtain ⟨hi8, h⟩ := h
        refine q_ialdX (v := (σ 122 ((σ 121 1) - 1).toNatClampNeg)) dX1_apply_95 ar_122 hi8 rfl ?_
        refine q_cSi (e := (jn p1 (σ 122 (((σ 121 1) - 1) - 1).toNatClampNeg) (σ 122 ((σ 121 1) - 1).toNatClampNeg))) (d' := 0) [.int p1, .int (σ 122 (((σ 121 1) - 1) - 1).toNatClampNeg), .int (σ 122 ((σ 121 1) - 1).toNatClampNeg)] [.int (((σ 121 1) - 1) - 1), .ref (g.2.1 122)] dX1_apply_96 ok_X1_join mk_RX1_51 rfl (Nat.le_of_ble_eq_true rfl) (by first | decide | omega) (fun Φ h9 => c_X1_join (σ := su σ 121 (upd (σ 121) 1 ((σ 121 1) - 1))) Φ h9) ?_
        refine q_iastX (F := upd (σ 122) ((((σ 121 1) - 1) - 1).toNatClampNeg) (jn p1 (σ 122 (((σ 121 1) - 1) - 1).toNatClampNeg) (σ 122 ((σ 121 1) - 1).toNatClampNeg))) dX1_apply_99 ar_122 hi7 rfl ?_
        exact q_vret rfl dX1_apply_100 h
    · have h := h.2 c5
      refine q_aload_n dX1_apply_14 rfl ?_
      refine q_getR dX1_apply_15 fF_RX1_9 fl_121_0 ?_
      refine q_aload_n dX1_apply_18 rfl ?_
      refine q_getX (x := (σ 121 1)) dX1_apply_19 fF_RX1_33 fl_121_1 rfl ?_
      refine q_iconst (v := 1) dX1_apply_22 (by decide) ?_
      refine q_isub dX1_apply_23 ?_
      refine q_aload_n dX1_apply_24 rfl ?_
      refine q_getR dX1_apply_25 fF_RX1_9 fl_121_0 ?_
      refine q_aload_n dX1_apply_28 rfl ?_
      refine q_getX (x := (σ 121 1)) dX1_apply_29 fF_RX1_33 fl_121_1 rfl ?_
      refine q_iconst (v := 1) dX1_apply_32 (by decide) ?_
      refine q_isub dX1_apply_33 ?_
      obtain ⟨hi9, h⟩ := h
      refine q_ialdX (v := (σ 122 ((σ 121 1) - 1).toNatClampNeg)) dX1_apply_34 ar_122 hi9 rfl ?_
      refine q_if_ne (tgt := 42) dX1_apply_35 (by decide) (fun c10 => ?_) (fun c10 => ?_)
      · have h := h.1 c10
        refine q_iconst (v := 0) dX1_apply_42 (by decide) ?_
        refine q_iastX (F := upd (σ 122) (((σ 121 1) - 1).toNatClampNeg) 0) dX1_apply_43 ar_122 hi9 rfl ?_
        refine q_goto (tgt := 100) dX1_apply_44 (by decide) ?_
        exact q_vret rfl dX1_apply_100 h
      · have h := h.2 c10
        refine q_iconst (v := 1) dX1_apply_38 (by decide) ?_
        refine q_goto (tgt := 43) dX1_apply_39 (by decide) ?_
        refine q_iastX (F := upd (σ 122) (((σ 121 1) - 1).toNatClampNeg) 1) dX1_apply_43 ar_122 hi9 rfl ?_
        refine q_goto (tgt := 100) dX1_apply_44 (by decide) ?_
        exact q_vret rfl dX1_apply_100 h

theorem s_X1_valueOf_0 (g : vt_GT) (σ : vt_Sg) (P : Option Value → vt_Sg → Prop) (p1 : Int32) (p3 : Int32) (p4 : Int32)
  (h : vp_in p3 12 ∧ ((¬ (σ 117 p3.toNatClampNeg) = (-1000000005) → (p1 = 97 → vt_Mi g 0 D_X2_anchors [.ref (g.2.1 116), .int p3] σ (fun r13 σ12 => P (some (.int r13)) σ12)) ∧ (¬ p1 = 97 → (p1 = 102 → vp_in (σ 117 p3.toNatClampNeg) 12 ∧ (P (some (.int (σ 2 (σ 117 p3.toNatClampNeg).toNatClampNeg))) σ)) ∧ (¬ p1 = 102 → (p1 = 107 → P (some (.int (σ 8 p3.toNatClampNeg))) σ) ∧ (¬ p1 = 107 → (p1 = 109 → P (some (.int (σ 116 1))) σ) ∧ (¬ p1 = 109 → (p1 = 110 → vt_Mi g 0 D_X2_beside [.ref (g.2.1 116), .int (σ 117 p3.toNatClampNeg)] σ (fun r10 σ9 => P (some (.int r10)) σ9)) ∧ (¬ p1 = 110 → (p1 = 111 → P (some (.int (if σ 117 p3.toNatClampNeg = (-1000000005) then σ 116 2 else (σ 116 2) - 1))) σ) ∧ (¬ p1 = 111 → (p1 = 116 → vt_Mi g 1 D_X5_sum [.ref (g.2.1 19), .int p3, .int (σ 116 1), .int p4] σ (fun r8 σ7 => P (some (.int r8)) σ7)) ∧ (¬ p1 = 116 → (p1 = 118 → vp_in (σ 117 p3.toNatClampNeg) 12 ∧ (P (some (.int (σ 120 (σ 117 p3.toNatClampNeg).toNatClampNeg))) σ)) ∧ (¬ p1 = 118 → (p1 = 120 → vt_Mi g 1 D_X2_rivalNear [.ref (g.2.1 116), .int p3] σ (fun r4 σ3 => (r4 = 0 → P (some (.int 0)) σ3) ∧ (¬ r4 = 0 → P (some (.int 1)) σ3))) ∧ (¬ p1 = 120 → P (some (.int (σ 119 p3.toNatClampNeg))) σ)))))))))) ∧ ((σ 117 p3.toNatClampNeg) = (-1000000005) → P (some (.int 0)) σ))) :
  TT g (vt_R 2) 0 0 D_X1_valueOf none 0 [some (.int p1), some (.ref (g.2.1 116)), some (.int p3), some (.int p4), none] [] σ P := by
  refine q_aload_n dX1_valueOf_0 rfl ?_
  refine q_getR dX1_valueOf_1 fF_RX1_55 fl_116_3 ?_
  refine q_iload_n dX1_valueOf_4 rfl ?_
  obtain ⟨hi1, h⟩ := h
  refine q_ialdX (v := (σ 117 p3.toNatClampNeg)) dX1_valueOf_5 ar_117 hi1 rfl ?_
  refine q_istore (L' := [some (.int p1), some (.ref (g.2.1 116)), some (.int p3), some (.int p4), some (.int (σ 117 p3.toNatClampNeg))]) dX1_valueOf_6 (by decide) rfl rfl ?_
  refine q_iload dX1_valueOf_8 rfl ?_
  refine q_ldc dX1_valueOf_10 ct_RX1_58 ?_
  refine q_icmp_ne (tgt := 17) dX1_valueOf_12 (by decide) (fun c2 => ?_) (fun c2 => ?_)
  · have h := h.1 c2
    refine q_iload_n dX1_valueOf_17 rfl ?_
    by_cases n18_0 : p1 = 97
    · have h := h.1 n18_0
      refine q_tabE (kk := 97) n18_0 (tgt := 156) (off := 138) dX1_valueOf_18 (by decide) (by decide) rfl (by decide) ?_
      refine q_aload_n dX1_valueOf_156 rfl ?_
      refine q_iload_n dX1_valueOf_157 rfl ?_
      refine q_cV (d' := 0) [.int p3] [] dX1_valueOf_158 ok_X2_anchors mk_RX1_74 rc_116 rfl (Nat.le_of_ble_eq_true rfl) (by first | decide | omega) h (fun v σ12 h => ?_)
      obtain ⟨r13, rfl, h⟩ := h
      exact q_iret .int rfl rfl dX1_valueOf_161 h
    · have h := h.2 n18_0
      by_cases n18_1 : p1 = 102
      · have h := h.1 n18_1
        refine q_tabE (kk := 102) n18_1 (tgt := 145) (off := 127) dX1_valueOf_18 (by decide) (by decide) rfl (by decide) ?_
        refine q_aload_n dX1_valueOf_145 rfl ?_
        refine q_getR dX1_valueOf_146 fF_RX1_15 fl_116_0 ?_
        refine q_getR dX1_valueOf_149 fF_RX1_71 fl_1_0 ?_
        refine q_iload dX1_valueOf_152 rfl ?_
        obtain ⟨hi11, h⟩ := h
        refine q_ialdX (v := (σ 2 (σ 117 p3.toNatClampNeg).toNatClampNeg)) dX1_valueOf_154 ar_2 hi11 rfl ?_
        exact q_iret .int rfl rfl dX1_valueOf_155 h
      · have h := h.2 n18_1
        by_cases n18_2 : p1 = 107
        · have h := h.1 n18_2
          refine q_tabE (kk := 107) n18_2 (tgt := 176) (off := 158) dX1_valueOf_18 (by decide) (by decide) rfl (by decide) ?_
          refine q_aload_n dX1_valueOf_176 rfl ?_
          refine q_getR dX1_valueOf_177 fF_RX1_15 fl_116_0 ?_
          refine q_getR dX1_valueOf_180 fF_RX1_84 fl_1_3 ?_
          refine q_getR dX1_valueOf_183 fF_RX1_88 fl_7_0 ?_
          refine q_iload_n dX1_valueOf_186 rfl ?_
          refine q_ialdX (v := (σ 8 p3.toNatClampNeg)) dX1_valueOf_187 ar_8 hi1 rfl ?_
          exact q_iret .int rfl rfl dX1_valueOf_188 h
        · have h := h.2 n18_2
          by_cases n18_3 : p1 = 109
          · have h := h.1 n18_3
            refine q_tabE (kk := 109) n18_3 (tgt := 196) (off := 178) dX1_valueOf_18 (by decide) (by decide) rfl (by decide) ?_
            refine q_aload_n dX1_valueOf_196 rfl ?_
            refine q_getX (x := (σ 116 1)) dX1_valueOf_197 fF_RX1_63 fl_116_1 rfl ?_
            exact q_iret .int rfl rfl dX1_valueOf_200 h
          · have h := h.2 n18_3
            by_cases n18_4 : p1 = 110
            · have h := h.1 n18_4
              refine q_tabE (kk := 110) n18_4 (tgt := 189) (off := 171) dX1_valueOf_18 (by decide) (by decide) rfl (by decide) ?_
              refine q_aload_n dX1_valueOf_189 rfl ?_
              refine q_iload dX1_valueOf_190 rfl ?_
              refine q_cV (d' := 0) [.int (σ 117 p3.toNatClampNeg)] [] dX1_valueOf_192 ok_X2_beside mk_RX1_93 rc_116 rfl (Nat.le_of_ble_eq_true rfl) (by first | decide | omega) h (fun v σ9 h => ?_)
              obtain ⟨r10, rfl, h⟩ := h
              exact q_iret .int rfl rfl dX1_valueOf_195 h
            · have h := h.2 n18_4
              by_cases n18_5 : p1 = 111
              · have h := h.1 n18_5
                refine q_tabE (kk := 111) n18_5 (tgt := 162) (off := 144) dX1_valueOf_18 (by decide) (by decide) rfl (by decide) ?_
                refine q_aload_n dX1_valueOf_162 rfl ?_
                refine q_iload_n dX1_valueOf_163 rfl ?_
                refine q_cVi (e := (if σ 117 p3.toNatClampNeg = (-1000000005) then σ 116 2 else (σ 116 2) - 1)) (d' := 0) [.int p3] [] dX1_valueOf_164 ok_X2_others mk_RX1_78 rc_116 rfl (Nat.le_of_ble_eq_true rfl) (by first | decide | omega) (fun Φ h9 => c_X2_others (σ := σ) hi1 Φ h9) ?_
                exact q_iret .int rfl rfl dX1_valueOf_167 h
              · have h := h.2 n18_5
                by_cases n18_6 : p1 = 116
                · have h := h.1 n18_6
                  refine q_tabE (kk := 116) n18_6 (tgt := 128) (off := 110) dX1_valueOf_18 (by decide) (by decide) rfl (by decide) ?_
                  refine q_aload_n dX1_valueOf_128 rfl ?_
                  refine q_getR dX1_valueOf_129 fF_RX1_15 fl_116_0 ?_
                  refine q_getR dX1_valueOf_132 fF_RX1_59 fl_1_5 ?_
                  refine q_iload_n dX1_valueOf_135 rfl ?_
                  refine q_aload_n dX1_valueOf_136 rfl ?_
                  refine q_getX (x := (σ 116 1)) dX1_valueOf_137 fF_RX1_63 fl_116_1 rfl ?_
                  refine q_iload_n dX1_valueOf_140 rfl ?_
                  refine q_cV (d' := 1) [.int p3, .int (σ 116 1), .int p4] [] dX1_valueOf_141 ok_X5_sum mk_RX1_66 rc_19 rfl (Nat.le_of_ble_eq_true rfl) (by first | decide | omega) h (fun v σ7 h => ?_)
                  obtain ⟨r8, rfl, h⟩ := h
                  exact q_iret .int rfl rfl dX1_valueOf_144 h
                · have h := h.2 n18_6
                  by_cases n18_7 : p1 = 118
                  · have h := h.1 n18_7
                    refine q_tabE (kk := 118) n18_7 (tgt := 168) (off := 150) dX1_valueOf_18 (by decide) (by decide) rfl (by decide) ?_
                    refine q_aload_n dX1_valueOf_168 rfl ?_
                    refine q_getR dX1_valueOf_169 fF_RX1_81 fl_116_6 ?_
                    refine q_iload dX1_valueOf_172 rfl ?_
                    obtain ⟨hi6, h⟩ := h
                    refine q_ialdX (v := (σ 120 (σ 117 p3.toNatClampNeg).toNatClampNeg)) dX1_valueOf_174 ar_120 hi6 rfl ?_
                    exact q_iret .int rfl rfl dX1_valueOf_175 h
                  · have h := h.2 n18_7
                    by_cases n18_8 : p1 = 120
                    · have h := h.1 n18_8
                      refine q_tabE (kk := 120) n18_8 (tgt := 201) (off := 183) dX1_valueOf_18 (by decide) (by decide) rfl (by decide) ?_
                      refine q_aload_n dX1_valueOf_201 rfl ?_
                      refine q_iload_n dX1_valueOf_202 rfl ?_
                      refine q_cV (d' := 1) [.int p3] [] dX1_valueOf_203 ok_X2_rivalNear mk_RX1_96 rc_116 rfl (Nat.le_of_ble_eq_true rfl) (by first | decide | omega) h (fun v σ3 h => ?_)
                      obtain ⟨r4, rfl, h⟩ := h
                      refine q_if_eq (tgt := 213) dX1_valueOf_206 (by decide) (fun c5 => ?_) (fun c5 => ?_)
                      · have h := h.1 c5
                        refine q_iconst (v := 0) dX1_valueOf_213 (by decide) ?_
                        exact q_iret .int rfl rfl dX1_valueOf_214 h
                      · have h := h.2 c5
                        refine q_iconst (v := 1) dX1_valueOf_209 (by decide) ?_
                        refine q_goto (tgt := 214) dX1_valueOf_210 (by decide) ?_
                        exact q_iret .int rfl rfl dX1_valueOf_214 h
                    · have h := h.2 n18_8
                      have hdef : TT g (vt_R 2) 0 0 D_X1_valueOf none 215 [some (.int p1), some (.ref (g.2.1 116)), some (.int p3), some (.int p4), some (.int (σ 117 p3.toNatClampNeg))] [] σ P := by
                        refine q_aload_n dX1_valueOf_215 rfl ?_
                        refine q_getR dX1_valueOf_216 fF_RX1_100 fl_116_5 ?_
                        refine q_iload_n dX1_valueOf_219 rfl ?_
                        refine q_ialdX (v := (σ 119 p3.toNatClampNeg)) dX1_valueOf_220 ar_119 hi1 rfl ?_
                        exact q_iret .int rfl rfl dX1_valueOf_221 h
                      by_cases out : p1.toInt < 97 ∨ 120 < p1.toInt
                      · exact q_tabOut (tgt := 215) dX1_valueOf_18 out (by decide) hdef
                      · have hh : p1.toInt = 98 ∨ p1.toInt = 99 ∨ p1.toInt = 100 ∨ p1.toInt = 101 ∨ p1.toInt = 103 ∨ p1.toInt = 104 ∨ p1.toInt = 105 ∨ p1.toInt = 106 ∨ p1.toInt = 108 ∨ p1.toInt = 112 ∨ p1.toInt = 113 ∨ p1.toInt = 114 ∨ p1.toInt = 115 ∨ p1.toInt = 117 ∨ p1.toInt = 119 := by have z0 := lv_neT (a := 97) n18_0 (by decide); have z1 := lv_neT (a := 102) n18_1 (by decide); have z2 := lv_neT (a := 107) n18_2 (by decide); have z3 := lv_neT (a := 109) n18_3 (by decide); have z4 := lv_neT (a := 110) n18_4 (by decide); have z5 := lv_neT (a := 111) n18_5 (by decide); have z6 := lv_neT (a := 116) n18_6 (by decide); have z7 := lv_neT (a := 118) n18_7 (by decide); have z8 := lv_neT (a := 120) n18_8 (by decide); omega
                        rcases hh with hh | hh | hh | hh | hh | hh | hh | hh | hh | hh | hh | hh | hh | hh | hh
                        · exact q_tabE (kk := 98) (Int32.toInt_inj.mp (by rw [hh]; rfl)) (tgt := 215) (off := 197) dX1_valueOf_18 (by decide) (by decide) rfl (by decide) hdef
                        · exact q_tabE (kk := 99) (Int32.toInt_inj.mp (by rw [hh]; rfl)) (tgt := 215) (off := 197) dX1_valueOf_18 (by decide) (by decide) rfl (by decide) hdef
                        · exact q_tabE (kk := 100) (Int32.toInt_inj.mp (by rw [hh]; rfl)) (tgt := 215) (off := 197) dX1_valueOf_18 (by decide) (by decide) rfl (by decide) hdef
                        · exact q_tabE (kk := 101) (Int32.toInt_inj.mp (by rw [hh]; rfl)) (tgt := 215) (off := 197) dX1_valueOf_18 (by decide) (by decide) rfl (by decide) hdef
                        · exact q_tabE (kk := 103) (Int32.toInt_inj.mp (by rw [hh]; rfl)) (tgt := 215) (off := 197) dX1_valueOf_18 (by decide) (by decide) rfl (by decide) hdef
                        · exact q_tabE (kk := 104) (Int32.toInt_inj.mp (by rw [hh]; rfl)) (tgt := 215) (off := 197) dX1_valueOf_18 (by decide) (by decide) rfl (by decide) hdef
                        · exact q_tabE (kk := 105) (Int32.toInt_inj.mp (by rw [hh]; rfl)) (tgt := 215) (off := 197) dX1_valueOf_18 (by decide) (by decide) rfl (by decide) hdef
                        · exact q_tabE (kk := 106) (Int32.toInt_inj.mp (by rw [hh]; rfl)) (tgt := 215) (off := 197) dX1_valueOf_18 (by decide) (by decide) rfl (by decide) hdef
                        · exact q_tabE (kk := 108) (Int32.toInt_inj.mp (by rw [hh]; rfl)) (tgt := 215) (off := 197) dX1_valueOf_18 (by decide) (by decide) rfl (by decide) hdef
                        · exact q_tabE (kk := 112) (Int32.toInt_inj.mp (by rw [hh]; rfl)) (tgt := 215) (off := 197) dX1_valueOf_18 (by decide) (by decide) rfl (by decide) hdef
                        · exact q_tabE (kk := 113) (Int32.toInt_inj.mp (by rw [hh]; rfl)) (tgt := 215) (off := 197) dX1_valueOf_18 (by decide) (by decide) rfl (by decide) hdef
                        · exact q_tabE (kk := 114) (Int32.toInt_inj.mp (by rw [hh]; rfl)) (tgt := 215) (off := 197) dX1_valueOf_18 (by decide) (by decide) rfl (by decide) hdef
                        · exact q_tabE (kk := 115) (Int32.toInt_inj.mp (by rw [hh]; rfl)) (tgt := 215) (off := 197) dX1_valueOf_18 (by decide) (by decide) rfl (by decide) hdef
                        · exact q_tabE (kk := 117) (Int32.toInt_inj.mp (by rw [hh]; rfl)) (tgt := 215) (off := 197) dX1_valueOf_18 (by decide) (by decide) rfl (by decide) hdef
                        · exact q_tabE (kk := 119) (Int32.toInt_inj.mp (by rw [hh]; rfl)) (tgt := 215) (off := 197) dX1_valueOf_18 (by decide) (by decide) rfl (by decide) hdef
  · have h := h.2 c2
    refine q_iconst (v := 0) dX1_valueOf_15 (by decide) ?_
    exact q_iret .int rfl rfl dX1_valueOf_16 h

theorem s_X2_look_0 (g : vt_GT) (σ : vt_Sg) (P : Option Value → vt_Sg → Prop) (p1 : Int32)
  (h : vt_Mv g 0 D_J7_fill_53178 [.ref (g.2.1 117), .int (-1000000005)] (su σ 116 (upd (σ 116) 1 p1)) (fun σ1 => TT g (vt_R 2) 0 0 D_X2_look none 24 [some (.ref (g.2.1 116)), some (.int p1), some (.ref (g.2.1 15)), some (.int 0)] [] σ1 P)) :
  TT g (vt_R 2) 0 0 D_X2_look none 0 [some (.ref (g.2.1 116)), some (.int p1), none, none] [] σ P := by
  refine q_aload_n dX2_look_0 rfl ?_
  refine q_iload_n dX2_look_1 rfl ?_
  refine q_putX (F := upd (σ 116) 1 p1) dX2_look_2 fF_RX2_28 fP_2_1 fl_116_1 rfl ?_
  refine q_aload_n dX2_look_5 rfl ?_
  refine q_getR dX2_look_6 fF_RX2_9 fl_116_3 ?_
  refine q_ldc dX2_look_9 ct_RX2_32 ?_
  refine q_cS (d' := 0) [.ref (g.2.1 117), .int (-1000000005)] [] dX2_look_11 ok_J7_fill_53178 mk_RX2_33 rfl (Nat.le_of_ble_eq_true rfl) (by first | decide | omega) h (fun v σ1 h => ?_)
  obtain ⟨rfl, h⟩ := h
  refine q_aload_n dX2_look_14 rfl ?_
  refine q_getR dX2_look_15 fF_RX2_24 fl_116_0 ?_
  refine q_getR dX2_look_18 fF_RX2_39 fl_1_4 ?_
  refine q_astore_n (L' := [some (.ref (g.2.1 116)), some (.int p1), some (.ref (g.2.1 15)), none]) dX2_look_21 (by decide) rfl rfl ?_
  refine q_iconst (v := 0) dX2_look_22 (by decide) ?_
  refine q_istore_n (L' := [some (.ref (g.2.1 116)), some (.int p1), some (.ref (g.2.1 15)), some (.int 0)]) dX2_look_23 (by decide) rfl rfl ?_
  exact h

theorem s_X2_look_24 (g : vt_GT) (σ : vt_Sg) (P : Option Value → vt_Sg → Prop) (x1 : Int32) (x3 : Int32)
  (h : ((σ 15 3) ≤ x3 → vt_Mv g 1 D_X2_settle [.ref (g.2.1 116)] σ (fun σ2 => P none σ2)) ∧ (¬ (σ 15 3) ≤ x3 → vp_in x3 200 ∧ ((x1 < (σ 17 x3.toNatClampNeg) → vt_Mv g 1 D_X2_settle [.ref (g.2.1 116)] σ (fun σ5 => P none σ5)) ∧ (¬ x1 < (σ 17 x3.toNatClampNeg) → vp_in (σ 16 x3.toNatClampNeg) 12 ∧ (TT g (vt_R 2) 0 0 D_X2_look none 24 [some (.ref (g.2.1 116)), some (.int x1), some (.ref (g.2.1 15)), some (.int (x3 + 1))] [] (su σ 117 (upd (σ 117) ((σ 16 x3.toNatClampNeg).toNatClampNeg) (σ 18 x3.toNatClampNeg))) P))))) :
  TT g (vt_R 2) 0 0 D_X2_look none 24 [some (.ref (g.2.1 116)), some (.int x1), some (.ref (g.2.1 15)), some (.int x3)] [] σ P := by
  refine q_iload_n dX2_look_24 rfl ?_
  refine q_aload_n dX2_look_25 rfl ?_
  refine q_getX (x := (σ 15 3)) dX2_look_26 fF_RX2_45 fl_15_3 rfl ?_
  refine q_icmp_ge (tgt := 65) dX2_look_29 (by decide) (fun c1 => ?_) (fun c1 => ?_)
  · have h := h.1 c1
    refine q_aload_n dX2_look_65 rfl ?_
    refine q_cV (d' := 1) [] [] dX2_look_66 ok_X2_settle mk_RX2_58 rc_116 rfl (Nat.le_of_ble_eq_true rfl) (by first | decide | omega) h (fun v σ2 h => ?_)
    obtain ⟨rfl, h⟩ := h
    exact q_vret rfl dX2_look_69 h
  · have h := h.2 c1
    refine q_aload_n dX2_look_32 rfl ?_
    refine q_getR dX2_look_33 fF_RX2_50 fl_15_1 ?_
    refine q_iload_n dX2_look_36 rfl ?_
    obtain ⟨hi3, h⟩ := h
    refine q_ialdX (v := (σ 17 x3.toNatClampNeg)) dX2_look_37 ar_17 hi3 rfl ?_
    refine q_iload_n dX2_look_38 rfl ?_
    refine q_icmp_gt (tgt := 65) dX2_look_39 (by decide) (fun c4 => ?_) (fun c4 => ?_)
    · have h := h.1 c4
      refine q_aload_n dX2_look_65 rfl ?_
      refine q_cV (d' := 1) [] [] dX2_look_66 ok_X2_settle mk_RX2_58 rc_116 rfl (Nat.le_of_ble_eq_true rfl) (by first | decide | omega) h (fun v σ5 h => ?_)
      obtain ⟨rfl, h⟩ := h
      exact q_vret rfl dX2_look_69 h
    · have h := h.2 c4
      refine q_aload_n dX2_look_42 rfl ?_
      refine q_getR dX2_look_43 fF_RX2_9 fl_116_3 ?_
      refine q_aload_n dX2_look_46 rfl ?_
      refine q_getR dX2_look_47 fF_RX2_52 fl_15_0 ?_
      refine q_iload_n dX2_look_50 rfl ?_
      refine q_ialdX (v := (σ 16 x3.toNatClampNeg)) dX2_look_51 ar_16 hi3 rfl ?_
      refine q_aload_n dX2_look_52 rfl ?_
      refine q_getR dX2_look_53 fF_RX2_55 fl_15_2 ?_
      refine q_iload_n dX2_look_56 rfl ?_
      refine q_ialdX (v := (σ 18 x3.toNatClampNeg)) dX2_look_57 ar_18 hi3 rfl ?_
      obtain ⟨hi6, h⟩ := h
      refine q_iastX (F := upd (σ 117) ((σ 16 x3.toNatClampNeg).toNatClampNeg) (σ 18 x3.toNatClampNeg)) dX2_look_58 ar_117 hi6 rfl ?_
      refine q_iinc (L' := [some (.ref (g.2.1 116)), some (.int x1), some (.ref (g.2.1 15)), some (.int (x3 + 1))]) dX2_look_59 rfl (by decide) rfl rfl ?_
      refine q_goto (tgt := 24) dX2_look_62 (by decide) ?_
      exact h

theorem s_X2_sendOut_0 (g : vt_GT) (σ : vt_Sg) (P : Option Value → vt_Sg → Prop) (p1 : Int32)
  (h : vp_in p1 12 ∧ (vt_Mv g 1 D_X2_settle [.ref (g.2.1 116)] (su σ 117 (upd (σ 117) p1.toNatClampNeg (-1000000005))) (fun σ2 => P none σ2))) :
  TT g (vt_R 2) 0 0 D_X2_sendOut none 0 [some (.ref (g.2.1 116)), some (.int p1)] [] σ P := by
  refine q_aload_n dX2_sendOut_0 rfl ?_
  refine q_getR dX2_sendOut_1 fF_RX2_9 fl_116_3 ?_
  refine q_iload_n dX2_sendOut_4 rfl ?_
  refine q_ldc dX2_sendOut_5 ct_RX2_32 ?_
  obtain ⟨hi1, h⟩ := h
  refine q_iastX (F := upd (σ 117) p1.toNatClampNeg (-1000000005)) dX2_sendOut_7 ar_117 hi1 rfl ?_
  refine q_aload_n dX2_sendOut_8 rfl ?_
  refine q_cV (d' := 1) [] [] dX2_sendOut_9 ok_X2_settle mk_RX2_58 rc_116 rfl (Nat.le_of_ble_eq_true rfl) (by first | decide | omega) h (fun v σ2 h => ?_)
  obtain ⟨rfl, h⟩ := h
  exact q_vret rfl dX2_sendOut_12 h

theorem s_X2_settle_0 (g : vt_GT) (σ : vt_Sg) (P : Option Value → vt_Sg → Prop) 
  (h : vt_Mv g 0 D_J7_fill_53178 [.ref (g.2.1 118), .int (-1000000005)] σ (fun σ1 => vt_Mv g 0 D_J7_fill_53178 [.ref (g.2.1 119), .int 0] σ1 (fun σ2 => vt_Mv g 0 D_J7_fill_53178 [.ref (g.2.1 120), .int 0] σ2 (fun σ3 => TT g (vt_R 1) 0 0 D_X2_settle none 34 [some (.ref (g.2.1 116)), some (.int 0), some (.int 0), none] [] (su σ3 116 (upd (σ3 116) 2 0)) P)))) :
  TT g (vt_R 1) 0 0 D_X2_settle none 0 [some (.ref (g.2.1 116)), none, none, none] [] σ P := by
  refine q_aload_n dX2_settle_0 rfl ?_
  refine q_getR dX2_settle_1 fF_RX2_15 fl_116_4 ?_
  refine q_ldc dX2_settle_4 ct_RX2_32 ?_
  refine q_cS (d' := 0) [.ref (g.2.1 118), .int (-1000000005)] [] dX2_settle_6 ok_J7_fill_53178 mk_RX2_33 rfl (Nat.le_of_ble_eq_true rfl) (by first | decide | omega) h (fun v σ1 h => ?_)
  obtain ⟨rfl, h⟩ := h
  refine q_aload_n dX2_settle_9 rfl ?_
  refine q_getR dX2_settle_10 fF_RX2_18 fl_116_5 ?_
  refine q_iconst (v := 0) dX2_settle_13 (by decide) ?_
  refine q_cS (d' := 0) [.ref (g.2.1 119), .int 0] [] dX2_settle_14 ok_J7_fill_53178 mk_RX2_33 rfl (Nat.le_of_ble_eq_true rfl) (by first | decide | omega) h (fun v σ2 h => ?_)
  obtain ⟨rfl, h⟩ := h
  refine q_aload_n dX2_settle_17 rfl ?_
  refine q_getR dX2_settle_18 fF_RX2_21 fl_116_6 ?_
  refine q_iconst (v := 0) dX2_settle_21 (by decide) ?_
  refine q_cS (d' := 0) [.ref (g.2.1 120), .int 0] [] dX2_settle_22 ok_J7_fill_53178 mk_RX2_33 rfl (Nat.le_of_ble_eq_true rfl) (by first | decide | omega) h (fun v σ3 h => ?_)
  obtain ⟨rfl, h⟩ := h
  refine q_aload_n dX2_settle_25 rfl ?_
  refine q_iconst (v := 0) dX2_settle_26 (by decide) ?_
  refine q_putX (F := upd (σ3 116) 2 0) dX2_settle_27 fF_RX2_61 fP_2_2 fl_116_2 rfl ?_
  refine q_iconst (v := 0) dX2_settle_30 (by decide) ?_
  refine q_istore_n (L' := [some (.ref (g.2.1 116)), some (.int 0), none, none]) dX2_settle_31 (by decide) rfl rfl ?_
  refine q_iconst (v := 0) dX2_settle_32 (by decide) ?_
  refine q_istore_n (L' := [some (.ref (g.2.1 116)), some (.int 0), some (.int 0), none]) dX2_settle_33 (by decide) rfl rfl ?_
  exact h

theorem s_X2_settle_34 (g : vt_GT) (σ : vt_Sg) (P : Option Value → vt_Sg → Prop) (x1 : Int32) (x2 : Int32)
  (h : ((σ 7 7) ≤ x2 → (¬ x1 = 0 → TT g (vt_R 1) 0 0 D_X2_settle none 106 [some (.ref (g.2.1 116)), some (.int x1), some (.int 0), none] [] σ P) ∧ (x1 = 0 → P none σ)) ∧ (¬ (σ 7 7) ≤ x2 → vp_in x2 12 ∧ (((σ 117 x2.toNatClampNeg) = (-1000000005) → TT g (vt_R 1) 0 0 D_X2_settle none 34 [some (.ref (g.2.1 116)), some (.int x1), some (.int (x2 + 1)), none] [] σ P) ∧ (¬ (σ 117 x2.toNatClampNeg) = (-1000000005) → vp_in (σ 117 x2.toNatClampNeg) 12 ∧ (TT g (vt_R 1) 0 0 D_X2_settle none 34 [some (.ref (g.2.1 116)), some (.int (x1 + (σ 10 x2.toNatClampNeg))), some (.int (x2 + 1)), none] [] (su (su σ 118 (upd (σ 118) ((σ 117 x2.toNatClampNeg).toNatClampNeg) x2)) 116 (upd (σ 116) 2 ((σ 116 2) + 1))) P))))) :
  TT g (vt_R 1) 0 0 D_X2_settle none 34 [some (.ref (g.2.1 116)), some (.int x1), some (.int x2), none] [] σ P := by
  refine q_iload_n dX2_settle_34 rfl ?_
  refine q_aload_n dX2_settle_35 rfl ?_
  refine q_getR dX2_settle_36 fF_RX2_24 fl_116_0 ?_
  refine q_getR dX2_settle_39 fF_RX2_64 fl_1_3 ?_
  refine q_getX (x := (σ 7 7)) dX2_settle_42 fF_RX2_68 fl_7_7 rfl ?_
  refine q_icmp_ge (tgt := 99) dX2_settle_45 (by decide) (fun c1 => ?_) (fun c1 => ?_)
  · have h := h.1 c1
    refine q_iload_n dX2_settle_99 rfl ?_
    refine q_if_ne (tgt := 104) dX2_settle_100 (by decide) (fun c2 => ?_) (fun c2 => ?_)
    · have h := h.1 c2
      refine q_iconst (v := 0) dX2_settle_104 (by decide) ?_
      refine q_istore_n (L' := [some (.ref (g.2.1 116)), some (.int x1), some (.int 0), none]) dX2_settle_105 (by decide) rfl rfl ?_
      exact h
    · have h := h.2 c2
      exact q_vret rfl dX2_settle_103 h
  · have h := h.2 c1
    refine q_aload_n dX2_settle_48 rfl ?_
    refine q_getR dX2_settle_49 fF_RX2_9 fl_116_3 ?_
    refine q_iload_n dX2_settle_52 rfl ?_
    obtain ⟨hi3, h⟩ := h
    refine q_ialdX (v := (σ 117 x2.toNatClampNeg)) dX2_settle_53 ar_117 hi3 rfl ?_
    refine q_istore_n (L' := [some (.ref (g.2.1 116)), some (.int x1), some (.int x2), some (.int (σ 117 x2.toNatClampNeg))]) dX2_settle_54 (by decide) rfl rfl ?_
    refine q_iload_n dX2_settle_55 rfl ?_
    refine q_ldc dX2_settle_56 ct_RX2_32 ?_
    refine q_icmp_eq (tgt := 93) dX2_settle_58 (by decide) (fun c4 => ?_) (fun c4 => ?_)
    · have h := h.1 c4
      refine q_iinc (L' := [some (.ref (g.2.1 116)), some (.int x1), some (.int (x2 + 1)), some (.int (σ 117 x2.toNatClampNeg))]) dX2_settle_93 rfl (by decide) rfl rfl ?_
      refine q_goto (tgt := 34) dX2_settle_96 (by decide) ?_
      exact q_wk (by simp [vt_le]) h
    · have h := h.2 c4
      refine q_aload_n dX2_settle_61 rfl ?_
      refine q_getR dX2_settle_62 fF_RX2_15 fl_116_4 ?_
      refine q_iload_n dX2_settle_65 rfl ?_
      refine q_iload_n dX2_settle_66 rfl ?_
      obtain ⟨hi5, h⟩ := h
      refine q_iastX (F := upd (σ 118) ((σ 117 x2.toNatClampNeg).toNatClampNeg) x2) dX2_settle_67 ar_118 hi5 rfl ?_
      refine q_aload_n dX2_settle_68 rfl ?_
      refine q_dup dX2_settle_69 rfl ?_
      refine q_getX (x := (σ 116 2)) dX2_settle_70 fF_RX2_61 fl_116_2 rfl ?_
      refine q_iconst (v := 1) dX2_settle_73 (by decide) ?_
      refine q_iadd dX2_settle_74 ?_
      refine q_putX (F := upd (σ 116) 2 ((σ 116 2) + 1)) dX2_settle_75 fF_RX2_61 fP_2_2 fl_116_2 rfl ?_
      refine q_iload_n dX2_settle_78 rfl ?_
      refine q_aload_n dX2_settle_79 rfl ?_
      refine q_getR dX2_settle_80 fF_RX2_24 fl_116_0 ?_
      refine q_getR dX2_settle_83 fF_RX2_64 fl_1_3 ?_
      refine q_getR dX2_settle_86 fF_RX2_71 fl_7_2 ?_
      refine q_iload_n dX2_settle_89 rfl ?_
      refine q_ialdX (v := (σ 10 x2.toNatClampNeg)) dX2_settle_90 ar_10 hi3 rfl ?_
      refine q_iadd dX2_settle_91 ?_
      refine q_istore_n (L' := [some (.ref (g.2.1 116)), some (.int (x1 + (σ 10 x2.toNatClampNeg))), some (.int x2), some (.int (σ 117 x2.toNatClampNeg))]) dX2_settle_92 (by decide) rfl rfl ?_
      refine q_iinc (L' := [some (.ref (g.2.1 116)), some (.int (x1 + (σ 10 x2.toNatClampNeg))), some (.int (x2 + 1)), some (.int (σ 117 x2.toNatClampNeg))]) dX2_settle_93 rfl (by decide) rfl rfl ?_
      refine q_goto (tgt := 34) dX2_settle_96 (by decide) ?_
      exact q_wk (by simp [vt_le]) h

theorem s_X2_settle_106 (g : vt_GT) (σ : vt_Sg) (P : Option Value → vt_Sg → Prop) (x1 : Int32) (x2 : Int32)
  (h : ((σ 4 2) ≤ x2 → P none σ) ∧ (¬ (σ 4 2) ≤ x2 → TT g (vt_R 1) 0 0 D_X2_settle none 122 [some (.ref (g.2.1 116)), some (.int x1), some (.int x2), some (.int 0)] [] σ P)) :
  TT g (vt_R 1) 0 0 D_X2_settle none 106 [some (.ref (g.2.1 116)), some (.int x1), some (.int x2), none] [] σ P := by
  refine q_iload_n dX2_settle_106 rfl ?_
  refine q_aload_n dX2_settle_107 rfl ?_
  refine q_getR dX2_settle_108 fF_RX2_24 fl_116_0 ?_
  refine q_getR dX2_settle_111 fF_RX2_74 fl_1_2 ?_
  refine q_getX (x := (σ 4 2)) dX2_settle_114 fF_RX2_78 fl_4_2 rfl ?_
  refine q_icmp_ge (tgt := 147) dX2_settle_117 (by decide) (fun c1 => ?_) (fun c1 => ?_)
  · have h := h.1 c1
    exact q_vret rfl dX2_settle_147 h
  · have h := h.2 c1
    refine q_iconst (v := 0) dX2_settle_120 (by decide) ?_
    refine q_istore_n (L' := [some (.ref (g.2.1 116)), some (.int x1), some (.int x2), some (.int 0)]) dX2_settle_121 (by decide) rfl rfl ?_
    exact h

theorem s_X2_settle_122 (g : vt_GT) (σ : vt_Sg) (P : Option Value → vt_Sg → Prop) (x1 : Int32) (x2 : Int32) (x3 : Int32)
  (h : (12 ≤ x3 → TT g (vt_R 1) 0 0 D_X2_settle none 106 [some (.ref (g.2.1 116)), some (.int x1), some (.int (x2 + 1)), none] [] σ P) ∧ (¬ 12 ≤ x3 → vt_Mv g 0 D_X2_walk [.ref (g.2.1 116), .int x2, .int x3, .int x1] σ (fun σ2 => TT g (vt_R 1) 0 0 D_X2_settle none 122 [some (.ref (g.2.1 116)), some (.int x1), some (.int x2), some (.int (x3 + 1))] [] σ2 P))) :
  TT g (vt_R 1) 0 0 D_X2_settle none 122 [some (.ref (g.2.1 116)), some (.int x1), some (.int x2), some (.int x3)] [] σ P := by
  refine q_iload_n dX2_settle_122 rfl ?_
  refine q_bipush (v := 12) dX2_settle_123 (by decide) ?_
  refine q_icmp_ge (tgt := 141) dX2_settle_125 (by decide) (fun c1 => ?_) (fun c1 => ?_)
  · have h := h.1 c1
    refine q_iinc (L' := [some (.ref (g.2.1 116)), some (.int x1), some (.int (x2 + 1)), some (.int x3)]) dX2_settle_141 rfl (by decide) rfl rfl ?_
    refine q_goto (tgt := 106) dX2_settle_144 (by decide) ?_
    exact q_wk (by simp [vt_le]) h
  · have h := h.2 c1
    refine q_aload_n dX2_settle_128 rfl ?_
    refine q_iload_n dX2_settle_129 rfl ?_
    refine q_iload_n dX2_settle_130 rfl ?_
    refine q_iload_n dX2_settle_131 rfl ?_
    refine q_cV (d' := 0) [.int x2, .int x3, .int x1] [] dX2_settle_132 ok_X2_walk mk_RX2_81 rc_116 rfl (Nat.le_of_ble_eq_true rfl) (by first | decide | omega) h (fun v σ2 h => ?_)
    obtain ⟨rfl, h⟩ := h
    refine q_iinc (L' := [some (.ref (g.2.1 116)), some (.int x1), some (.int x2), some (.int (x3 + 1))]) dX2_settle_135 rfl (by decide) rfl rfl ?_
    refine q_goto (tgt := 122) dX2_settle_138 (by decide) ?_
    exact h

theorem s_X2_walk_0 (g : vt_GT) (σ : vt_Sg) (P : Option Value → vt_Sg → Prop) (p1 : Int32) (p2 : Int32) (p3 : Int32)
  (h : vp_in p2 12 ∧ (((σ 118 p2.toNatClampNeg) = (-1000000005) → P none σ) ∧ (¬ (σ 118 p2.toNatClampNeg) = (-1000000005) → (¬ p3 = 0 → vp_in p1 4 ∧ (vp_in (σ 118 p2.toNatClampNeg) 12 ∧ (TT g (vt_R 0) 0 0 D_X2_walk none 79 [some (.ref (g.2.1 116)), some (.int p1), some (.int p2), some (.int p3), some (.int (σ 118 p2.toNatClampNeg)), some (.int (((σ 6 p1.toNatClampNeg) * (σ 10 (σ 118 p2.toNatClampNeg).toNatClampNeg)) / p3)), some (.int (σ 5 p1.toNatClampNeg)), some (.int 0), none] [] (su σ 119 (upd (σ 119) ((σ 118 p2.toNatClampNeg).toNatClampNeg) ((σ 119 (σ 118 p2.toNatClampNeg).toNatClampNeg) + (((σ 6 p1.toNatClampNeg) * (σ 10 (σ 118 p2.toNatClampNeg).toNatClampNeg)) / p3)))) P))) ∧ (p3 = 0 → P none σ)))) :
  TT g (vt_R 0) 0 0 D_X2_walk none 0 [some (.ref (g.2.1 116)), some (.int p1), some (.int p2), some (.int p3), none, none, none, none, none] [] σ P := by
  refine q_aload_n dX2_walk_0 rfl ?_
  refine q_getR dX2_walk_1 fF_RX2_15 fl_116_4 ?_
  refine q_iload_n dX2_walk_4 rfl ?_
  obtain ⟨hi1, h⟩ := h
  refine q_ialdX (v := (σ 118 p2.toNatClampNeg)) dX2_walk_5 ar_118 hi1 rfl ?_
  refine q_istore (L' := [some (.ref (g.2.1 116)), some (.int p1), some (.int p2), some (.int p3), some (.int (σ 118 p2.toNatClampNeg)), none, none, none, none]) dX2_walk_6 (by decide) rfl rfl ?_
  refine q_iload dX2_walk_8 rfl ?_
  refine q_ldc dX2_walk_10 ct_RX2_32 ?_
  refine q_icmp_eq (tgt := 19) dX2_walk_12 (by decide) (fun c2 => ?_) (fun c2 => ?_)
  · have h := h.1 c2
    exact q_vret rfl dX2_walk_19 h
  · have h := h.2 c2
    refine q_iload_n dX2_walk_15 rfl ?_
    refine q_if_ne (tgt := 20) dX2_walk_16 (by decide) (fun c3 => ?_) (fun c3 => ?_)
    · have h := h.1 c3
      refine q_aload_n dX2_walk_20 rfl ?_
      refine q_getR dX2_walk_21 fF_RX2_24 fl_116_0 ?_
      refine q_getR dX2_walk_24 fF_RX2_74 fl_1_2 ?_
      refine q_getR dX2_walk_27 fF_RX2_85 fl_4_1 ?_
      refine q_iload_n dX2_walk_30 rfl ?_
      obtain ⟨hi4, h⟩ := h
      refine q_ialdX (v := (σ 6 p1.toNatClampNeg)) dX2_walk_31 ar_6 hi4 rfl ?_
      refine q_aload_n dX2_walk_32 rfl ?_
      refine q_getR dX2_walk_33 fF_RX2_24 fl_116_0 ?_
      refine q_getR dX2_walk_36 fF_RX2_64 fl_1_3 ?_
      refine q_getR dX2_walk_39 fF_RX2_71 fl_7_2 ?_
      refine q_iload dX2_walk_42 rfl ?_
      obtain ⟨hi5, h⟩ := h
      refine q_ialdX (v := (σ 10 (σ 118 p2.toNatClampNeg).toNatClampNeg)) dX2_walk_44 ar_10 hi5 rfl ?_
      refine q_imul dX2_walk_45 ?_
      refine q_iload_n dX2_walk_46 rfl ?_
      refine q_idiv dX2_walk_47 c3 ?_
      refine q_istore (L' := [some (.ref (g.2.1 116)), some (.int p1), some (.int p2), some (.int p3), some (.int (σ 118 p2.toNatClampNeg)), some (.int (((σ 6 p1.toNatClampNeg) * (σ 10 (σ 118 p2.toNatClampNeg).toNatClampNeg)) / p3)), none, none, none]) dX2_walk_48 (by decide) rfl rfl ?_
      refine q_aload_n dX2_walk_50 rfl ?_
      refine q_getR dX2_walk_51 fF_RX2_24 fl_116_0 ?_
      refine q_getR dX2_walk_54 fF_RX2_74 fl_1_2 ?_
      refine q_getR dX2_walk_57 fF_RX2_88 fl_4_0 ?_
      refine q_iload_n dX2_walk_60 rfl ?_
      refine q_ialdX (v := (σ 5 p1.toNatClampNeg)) dX2_walk_61 ar_5 hi4 rfl ?_
      refine q_istore (L' := [some (.ref (g.2.1 116)), some (.int p1), some (.int p2), some (.int p3), some (.int (σ 118 p2.toNatClampNeg)), some (.int (((σ 6 p1.toNatClampNeg) * (σ 10 (σ 118 p2.toNatClampNeg).toNatClampNeg)) / p3)), some (.int (σ 5 p1.toNatClampNeg)), none, none]) dX2_walk_62 (by decide) rfl rfl ?_
      refine q_aload_n dX2_walk_64 rfl ?_
      refine q_getR dX2_walk_65 fF_RX2_18 fl_116_5 ?_
      refine q_iload dX2_walk_68 rfl ?_
      refine q_dup2 dX2_walk_70 rfl rfl ?_
      refine q_ialdX (v := (σ 119 (σ 118 p2.toNatClampNeg).toNatClampNeg)) dX2_walk_71 ar_119 hi5 rfl ?_
      refine q_iload dX2_walk_72 rfl ?_
      refine q_iadd dX2_walk_74 ?_
      refine q_iastX (F := upd (σ 119) ((σ 118 p2.toNatClampNeg).toNatClampNeg) ((σ 119 (σ 118 p2.toNatClampNeg).toNatClampNeg) + (((σ 6 p1.toNatClampNeg) * (σ 10 (σ 118 p2.toNatClampNeg).toNatClampNeg)) / p3))) dX2_walk_75 ar_119 hi5 rfl ?_
      refine q_iconst (v := 0) dX2_walk_76 (by decide) ?_
      refine q_istore (L' := [some (.ref (g.2.1 116)), some (.int p1), some (.int p2), some (.int p3), some (.int (σ 118 p2.toNatClampNeg)), some (.int (((σ 6 p1.toNatClampNeg) * (σ 10 (σ 118 p2.toNatClampNeg).toNatClampNeg)) / p3)), some (.int (σ 5 p1.toNatClampNeg)), some (.int 0), none]) dX2_walk_77 (by decide) rfl rfl ?_
      exact h
    · have h := h.2 c3
      exact q_vret rfl dX2_walk_19 h

theorem s_X2_walk_79 (g : vt_GT) (σ : vt_Sg) (P : Option Value → vt_Sg → Prop) (x1 : Int32) (x2 : Int32) (x3 : Int32) (x4 : Int32) (x5 : Int32) (x6 : Int32) (x7 : Int32)
  (h : (12 ≤ x7 → P none σ) ∧ (¬ 12 ≤ x7 → (x7 < x6 → (x7 ≤ x2 → TT g (vt_R 0) 0 0 D_X2_walk none 79 [some (.ref (g.2.1 116)), some (.int x1), some (.int x2), some (.int x3), some (.int x4), some (.int x5), some (.int x6), some (.int (x7 + 1)), none] [] σ P) ∧ (¬ x7 ≤ x2 → (x6 < x7 → TT g (vt_R 0) 0 0 D_X2_walk none 79 [some (.ref (g.2.1 116)), some (.int x1), some (.int x2), some (.int x3), some (.int x4), some (.int x5), some (.int x6), some (.int (x7 + 1)), none] [] σ P) ∧ (¬ x6 < x7 → vp_in x7 12 ∧ (TT g (vt_R 0) 0 0 D_X2_walk none 79 [some (.ref (g.2.1 116)), some (.int x1), some (.int x2), some (.int x3), some (.int x4), some (.int x5), some (.int x6), some (.int (x7 + 1)), none] [] (su σ 120 (upd (σ 120) x7.toNatClampNeg ((σ 120 x7.toNatClampNeg) + x5))) P)))) ∧ (¬ x7 < x6 → (x7 < x2 → vp_in x7 12 ∧ (TT g (vt_R 0) 0 0 D_X2_walk none 79 [some (.ref (g.2.1 116)), some (.int x1), some (.int x2), some (.int x3), some (.int x4), some (.int x5), some (.int x6), some (.int (x7 + 1)), none] [] (su σ 120 (upd (σ 120) x7.toNatClampNeg ((σ 120 x7.toNatClampNeg) + x5))) P)) ∧ (¬ x7 < x2 → (x7 ≤ x2 → TT g (vt_R 0) 0 0 D_X2_walk none 79 [some (.ref (g.2.1 116)), some (.int x1), some (.int x2), some (.int x3), some (.int x4), some (.int x5), some (.int x6), some (.int (x7 + 1)), none] [] σ P) ∧ (¬ x7 ≤ x2 → (x6 < x7 → TT g (vt_R 0) 0 0 D_X2_walk none 79 [some (.ref (g.2.1 116)), some (.int x1), some (.int x2), some (.int x3), some (.int x4), some (.int x5), some (.int x6), some (.int (x7 + 1)), none] [] σ P) ∧ (¬ x6 < x7 → vp_in x7 12 ∧ (TT g (vt_R 0) 0 0 D_X2_walk none 79 [some (.ref (g.2.1 116)), some (.int x1), some (.int x2), some (.int x3), some (.int x4), some (.int x5), some (.int x6), some (.int (x7 + 1)), none] [] (su σ 120 (upd (σ 120) x7.toNatClampNeg ((σ 120 x7.toNatClampNeg) + x5))) P))))))) :
  TT g (vt_R 0) 0 0 D_X2_walk none 79 [some (.ref (g.2.1 116)), some (.int x1), some (.int x2), some (.int x3), some (.int x4), some (.int x5), some (.int x6), some (.int x7), none] [] σ P := by
  refine q_iload dX2_walk_79 rfl ?_
  refine q_bipush (v := 12) dX2_walk_81 (by decide) ?_
  refine q_icmp_ge (tgt := 142) dX2_walk_83 (by decide) (fun c1 => ?_) (fun c1 => ?_)
  · have h := h.1 c1
    exact q_vret rfl dX2_walk_142 h
  · have h := h.2 c1
    refine q_iload dX2_walk_86 rfl ?_
    refine q_iload dX2_walk_88 rfl ?_
    refine q_icmp_gt (tgt := 99) dX2_walk_90 (by decide) (fun c2 => ?_) (fun c2 => ?_)
    · have h := h.1 c2
      refine q_iload_n dX2_walk_99 rfl ?_
      refine q_iload dX2_walk_100 rfl ?_
      refine q_icmp_ge (tgt := 116) dX2_walk_102 (by decide) (fun c3 => ?_) (fun c3 => ?_)
      · have h := h.1 c3
        refine q_iconst (v := 0) dX2_walk_116 (by decide) ?_
        refine q_istore (L' := [some (.ref (g.2.1 116)), some (.int x1), some (.int x2), some (.int x3), some (.int x4), some (.int x5), some (.int x6), some (.int x7), some (.int 0)]) dX2_walk_117 (by decide) rfl rfl ?_
        refine q_iload dX2_walk_119 rfl ?_
        refine q_if_eq (tgt := 136) dX2_walk_121 (by decide) (fun _ => ?_) (fun c => absurd (by decide) c)
        refine q_iinc (L' := [some (.ref (g.2.1 116)), some (.int x1), some (.int x2), some (.int x3), some (.int x4), some (.int x5), some (.int x6), some (.int (x7 + 1)), some (.int 0)]) dX2_walk_136 rfl (by decide) rfl rfl ?_
        refine q_goto (tgt := 79) dX2_walk_139 (by decide) ?_
        exact q_wk (by simp [vt_le]) h
      · have h := h.2 c3
        refine q_iload dX2_walk_105 rfl ?_
        refine q_iload dX2_walk_107 rfl ?_
        refine q_icmp_gt (tgt := 116) dX2_walk_109 (by decide) (fun c4 => ?_) (fun c4 => ?_)
        · have h := h.1 c4
          refine q_iconst (v := 0) dX2_walk_116 (by decide) ?_
          refine q_istore (L' := [some (.ref (g.2.1 116)), some (.int x1), some (.int x2), some (.int x3), some (.int x4), some (.int x5), some (.int x6), some (.int x7), some (.int 0)]) dX2_walk_117 (by decide) rfl rfl ?_
          refine q_iload dX2_walk_119 rfl ?_
          refine q_if_eq (tgt := 136) dX2_walk_121 (by decide) (fun _ => ?_) (fun c => absurd (by decide) c)
          refine q_iinc (L' := [some (.ref (g.2.1 116)), some (.int x1), some (.int x2), some (.int x3), some (.int x4), some (.int x5), some (.int x6), some (.int (x7 + 1)), some (.int 0)]) dX2_walk_136 rfl (by decide) rfl rfl ?_
          refine q_goto (tgt := 79) dX2_walk_139 (by decide) ?_
          exact q_wk (by simp [vt_le]) h
        · have h := h.2 c4
          refine q_iconst (v := 1) dX2_walk_112 (by decide) ?_
          refine q_goto (tgt := 117) dX2_walk_113 (by decide) ?_
          refine q_istore (L' := [some (.ref (g.2.1 116)), some (.int x1), some (.int x2), some (.int x3), some (.int x4), some (.int x5), some (.int x6), some (.int x7), some (.int 1)]) dX2_walk_117 (by decide) rfl rfl ?_
          refine q_iload dX2_walk_119 rfl ?_
          refine q_if_eq (tgt := 136) dX2_walk_121 (by decide) (fun c => absurd c (by decide)) (fun _ => ?_)
          refine q_aload_n dX2_walk_124 rfl ?_
          refine q_getR dX2_walk_125 fF_RX2_21 fl_116_6 ?_
          refine q_iload dX2_walk_128 rfl ?_
          refine q_dup2 dX2_walk_130 rfl rfl ?_
          obtain ⟨hi5, h⟩ := h
          refine q_ialdX (v := (σ 120 x7.toNatClampNeg)) dX2_walk_131 ar_120 hi5 rfl ?_
          refine q_iload dX2_walk_132 rfl ?_
          refine q_iadd dX2_walk_134 ?_
          refine q_iastX (F := upd (σ 120) x7.toNatClampNeg ((σ 120 x7.toNatClampNeg) + x5)) dX2_walk_135 ar_120 hi5 rfl ?_
          refine q_iinc (L' := [some (.ref (g.2.1 116)), some (.int x1), some (.int x2), some (.int x3), some (.int x4), some (.int x5), some (.int x6), some (.int (x7 + 1)), some (.int 1)]) dX2_walk_136 rfl (by decide) rfl rfl ?_
          refine q_goto (tgt := 79) dX2_walk_139 (by decide) ?_
          exact q_wk (by simp [vt_le]) h
    · have h := h.2 c2
      refine q_iload dX2_walk_93 rfl ?_
      refine q_iload_n dX2_walk_95 rfl ?_
      refine q_icmp_lt (tgt := 112) dX2_walk_96 (by decide) (fun c6 => ?_) (fun c6 => ?_)
      · have h := h.1 c6
        refine q_iconst (v := 1) dX2_walk_112 (by decide) ?_
        refine q_goto (tgt := 117) dX2_walk_113 (by decide) ?_
        refine q_istore (L' := [some (.ref (g.2.1 116)), some (.int x1), some (.int x2), some (.int x3), some (.int x4), some (.int x5), some (.int x6), some (.int x7), some (.int 1)]) dX2_walk_117 (by decide) rfl rfl ?_
        refine q_iload dX2_walk_119 rfl ?_
        refine q_if_eq (tgt := 136) dX2_walk_121 (by decide) (fun c => absurd c (by decide)) (fun _ => ?_)
        refine q_aload_n dX2_walk_124 rfl ?_
        refine q_getR dX2_walk_125 fF_RX2_21 fl_116_6 ?_
        refine q_iload dX2_walk_128 rfl ?_
        refine q_dup2 dX2_walk_130 rfl rfl ?_
        obtain ⟨hi7, h⟩ := h
        refine q_ialdX (v := (σ 120 x7.toNatClampNeg)) dX2_walk_131 ar_120 hi7 rfl ?_
        refine q_iload dX2_walk_132 rfl ?_
        refine q_iadd dX2_walk_134 ?_
        refine q_iastX (F := upd (σ 120) x7.toNatClampNeg ((σ 120 x7.toNatClampNeg) + x5)) dX2_walk_135 ar_120 hi7 rfl ?_
        refine q_iinc (L' := [some (.ref (g.2.1 116)), some (.int x1), some (.int x2), some (.int x3), some (.int x4), some (.int x5), some (.int x6), some (.int (x7 + 1)), some (.int 1)]) dX2_walk_136 rfl (by decide) rfl rfl ?_
        refine q_goto (tgt := 79) dX2_walk_139 (by decide) ?_
        exact q_wk (by simp [vt_le]) h
      · have h := h.2 c6
        refine q_iload_n dX2_walk_99 rfl ?_
        refine q_iload dX2_walk_100 rfl ?_
        refine q_icmp_ge (tgt := 116) dX2_walk_102 (by decide) (fun c8 => ?_) (fun c8 => ?_)
        · have h := h.1 c8
          refine q_iconst (v := 0) dX2_walk_116 (by decide) ?_
          refine q_istore (L' := [some (.ref (g.2.1 116)), some (.int x1), some (.int x2), some (.int x3), some (.int x4), some (.int x5), some (.int x6), some (.int x7), some (.int 0)]) dX2_walk_117 (by decide) rfl rfl ?_
          refine q_iload dX2_walk_119 rfl ?_
          refine q_if_eq (tgt := 136) dX2_walk_121 (by decide) (fun _ => ?_) (fun c => absurd (by decide) c)
          refine q_iinc (L' := [some (.ref (g.2.1 116)), some (.int x1), some (.int x2), some (.int x3), some (.int x4), some (.int x5), some (.int x6), some (.int (x7 + 1)), some (.int 0)]) dX2_walk_136 rfl (by decide) rfl rfl ?_
          refine q_goto (tgt := 79) dX2_walk_139 (by decide) ?_
          exact q_wk (by simp [vt_le]) h
        · have h := h.2 c8
          refine q_iload dX2_walk_105 rfl ?_
          refine q_iload dX2_walk_107 rfl ?_
          refine q_icmp_gt (tgt := 116) dX2_walk_109 (by decide) (fun c9 => ?_) (fun c9 => ?_)
          · have h := h.1 c9
            refine q_iconst (v := 0) dX2_walk_116 (by decide) ?_
            refine q_istore (L' := [some (.ref (g.2.1 116)), some (.int x1), some (.int x2), some (.int x3), some (.int x4), some (.int x5), some (.int x6), some (.int x7), some (.int 0)]) dX2_walk_117 (by decide) rfl rfl ?_
            refine q_iload dX2_walk_119 rfl ?_
            refine q_if_eq (tgt := 136) dX2_walk_121 (by decide) (fun _ => ?_) (fun c => absurd (by decide) c)
            refine q_iinc (L' := [some (.ref (g.2.1 116)), some (.int x1), some (.int x2), some (.int x3), some (.int x4), some (.int x5), some (.int x6), some (.int (x7 + 1)), some (.int 0)]) dX2_walk_136 rfl (by decide) rfl rfl ?_
            refine q_goto (tgt := 79) dX2_walk_139 (by decide) ?_
            exact q_wk (by simp [vt_le]) h
          · have h := h.2 c9
            refine q_iconst (v := 1) dX2_walk_112 (by decide) ?_
            refine q_goto (tgt := 117) dX2_walk_113 (by decide) ?_
            refine q_istore (L' := [some (.ref (g.2.1 116)), some (.int x1), some (.int x2), some (.int x3), some (.int x4), some (.int x5), some (.int x6), some (.int x7), some (.int 1)]) dX2_walk_117 (by decide) rfl rfl ?_
            refine q_iload dX2_walk_119 rfl ?_
            refine q_if_eq (tgt := 136) dX2_walk_121 (by decide) (fun c => absurd c (by decide)) (fun _ => ?_)
            refine q_aload_n dX2_walk_124 rfl ?_
            refine q_getR dX2_walk_125 fF_RX2_21 fl_116_6 ?_
            refine q_iload dX2_walk_128 rfl ?_
            refine q_dup2 dX2_walk_130 rfl rfl ?_
            obtain ⟨hi10, h⟩ := h
            refine q_ialdX (v := (σ 120 x7.toNatClampNeg)) dX2_walk_131 ar_120 hi10 rfl ?_
            refine q_iload dX2_walk_132 rfl ?_
            refine q_iadd dX2_walk_134 ?_
            refine q_iastX (F := upd (σ 120) x7.toNatClampNeg ((σ 120 x7.toNatClampNeg) + x5)) dX2_walk_135 ar_120 hi10 rfl ?_
            refine q_iinc (L' := [some (.ref (g.2.1 116)), some (.int x1), some (.int x2), some (.int x3), some (.int x4), some (.int x5), some (.int x6), some (.int (x7 + 1)), some (.int 1)]) dX2_walk_136 rfl (by decide) rfl rfl ?_
            refine q_goto (tgt := 79) dX2_walk_139 (by decide) ?_
            exact q_wk (by simp [vt_le]) h

theorem s_X2_foretold_0 (g : vt_GT) (σ : vt_Sg) (P : Option Value → vt_Sg → Prop) (p1 : Int32)
  (h : vp_in p1 12 ∧ ((¬ (σ 117 p1.toNatClampNeg) = (-1000000005) → vp_in (σ 117 p1.toNatClampNeg) 12 ∧ (P (some (.int (((σ 119 p1.toNatClampNeg) + (((σ 120 (σ 117 p1.toNatClampNeg).toNatClampNeg) * (σ 11 p1.toNatClampNeg)) / 1000)) * (σ 13 p1.toNatClampNeg)))) σ)) ∧ ((σ 117 p1.toNatClampNeg) = (-1000000005) → P (some (.int 0)) σ))) :
  TT g (vt_R 0) 0 0 D_X2_foretold none 0 [some (.ref (g.2.1 116)), some (.int p1), none, none] [] σ P := by
  refine q_aload_n dX2_foretold_0 rfl ?_
  refine q_getR dX2_foretold_1 fF_RX2_9 fl_116_3 ?_
  refine q_iload_n dX2_foretold_4 rfl ?_
  obtain ⟨hi1, h⟩ := h
  refine q_ialdX (v := (σ 117 p1.toNatClampNeg)) dX2_foretold_5 ar_117 hi1 rfl ?_
  refine q_istore_n (L' := [some (.ref (g.2.1 116)), some (.int p1), some (.int (σ 117 p1.toNatClampNeg)), none]) dX2_foretold_6 (by decide) rfl rfl ?_
  refine q_iload_n dX2_foretold_7 rfl ?_
  refine q_ldc dX2_foretold_8 ct_RX2_32 ?_
  refine q_icmp_ne (tgt := 15) dX2_foretold_10 (by decide) (fun c2 => ?_) (fun c2 => ?_)
  · have h := h.1 c2
    refine q_aload_n dX2_foretold_15 rfl ?_
    refine q_getR dX2_foretold_16 fF_RX2_21 fl_116_6 ?_
    refine q_iload_n dX2_foretold_19 rfl ?_
    obtain ⟨hi3, h⟩ := h
    refine q_ialdX (v := (σ 120 (σ 117 p1.toNatClampNeg).toNatClampNeg)) dX2_foretold_20 ar_120 hi3 rfl ?_
    refine q_aload_n dX2_foretold_21 rfl ?_
    refine q_getR dX2_foretold_22 fF_RX2_24 fl_116_0 ?_
    refine q_getR dX2_foretold_25 fF_RX2_64 fl_1_3 ?_
    refine q_getR dX2_foretold_28 fF_RX2_89 fl_7_3 ?_
    refine q_iload_n dX2_foretold_31 rfl ?_
    refine q_ialdX (v := (σ 11 p1.toNatClampNeg)) dX2_foretold_32 ar_11 hi1 rfl ?_
    refine q_imul dX2_foretold_33 ?_
    refine q_sipush (v := 1000) dX2_foretold_34 (by decide) ?_
    refine q_idiv dX2_foretold_37 (by decide) ?_
    refine q_istore_n (L' := [some (.ref (g.2.1 116)), some (.int p1), some (.int (σ 117 p1.toNatClampNeg)), some (.int (((σ 120 (σ 117 p1.toNatClampNeg).toNatClampNeg) * (σ 11 p1.toNatClampNeg)) / 1000))]) dX2_foretold_38 (by decide) rfl rfl ?_
    refine q_aload_n dX2_foretold_39 rfl ?_
    refine q_getR dX2_foretold_40 fF_RX2_18 fl_116_5 ?_
    refine q_iload_n dX2_foretold_43 rfl ?_
    refine q_ialdX (v := (σ 119 p1.toNatClampNeg)) dX2_foretold_44 ar_119 hi1 rfl ?_
    refine q_iload_n dX2_foretold_45 rfl ?_
    refine q_iadd dX2_foretold_46 ?_
    refine q_aload_n dX2_foretold_47 rfl ?_
    refine q_getR dX2_foretold_48 fF_RX2_24 fl_116_0 ?_
    refine q_getR dX2_foretold_51 fF_RX2_64 fl_1_3 ?_
    refine q_getR dX2_foretold_54 fF_RX2_92 fl_7_5 ?_
    refine q_iload_n dX2_foretold_57 rfl ?_
    refine q_ialdX (v := (σ 13 p1.toNatClampNeg)) dX2_foretold_58 ar_13 hi1 rfl ?_
    refine q_imul dX2_foretold_59 ?_
    exact q_iret .int rfl rfl dX2_foretold_60 h
  · have h := h.2 c2
    refine q_iconst (v := 0) dX2_foretold_13 (by decide) ?_
    exact q_iret .int rfl rfl dX2_foretold_14 h

theorem s_X2_anchors_0 (g : vt_GT) (σ : vt_Sg) (P : Option Value → vt_Sg → Prop) (p1 : Int32)
  (h : TT g (vt_R 0) 0 0 D_X2_anchors none 4 [some (.ref (g.2.1 116)), some (.int p1), some (.int 0), some (.int 0), none] [] σ P) :
  TT g (vt_R 0) 0 0 D_X2_anchors none 0 [some (.ref (g.2.1 116)), some (.int p1), none, none, none] [] σ P := by
  refine q_iconst (v := 0) dX2_anchors_0 (by decide) ?_
  refine q_istore_n (L' := [some (.ref (g.2.1 116)), some (.int p1), some (.int 0), none, none]) dX2_anchors_1 (by decide) rfl rfl ?_
  refine q_iconst (v := 0) dX2_anchors_2 (by decide) ?_
  refine q_istore_n (L' := [some (.ref (g.2.1 116)), some (.int p1), some (.int 0), some (.int 0), none]) dX2_anchors_3 (by decide) rfl rfl ?_
  exact h

theorem s_X2_anchors_4 (g : vt_GT) (σ : vt_Sg) (P : Option Value → vt_Sg → Prop) (x1 : Int32) (x2 : Int32) (x3 : Int32)
  (h : ((σ 7 7) ≤ x3 → P (some (.int x2)) σ) ∧ (¬ (σ 7 7) ≤ x3 → (x3 = x1 → TT g (vt_R 0) 0 0 D_X2_anchors none 4 [some (.ref (g.2.1 116)), some (.int x1), some (.int x2), some (.int (x3 + 1)), none] [] σ P) ∧ (¬ x3 = x1 → vp_in x3 12 ∧ (((σ 117 x3.toNatClampNeg) = (-1000000005) → TT g (vt_R 0) 0 0 D_X2_anchors none 4 [some (.ref (g.2.1 116)), some (.int x1), some (.int x2), some (.int (x3 + 1)), none] [] σ P) ∧ (¬ (σ 117 x3.toNatClampNeg) = (-1000000005) → (¬ (σ 8 x3.toNatClampNeg) = 1 → TT g (vt_R 0) 0 0 D_X2_anchors none 4 [some (.ref (g.2.1 116)), some (.int x1), some (.int x2), some (.int (x3 + 1)), none] [] σ P) ∧ ((σ 8 x3.toNatClampNeg) = 1 → TT g (vt_R 0) 0 0 D_X2_anchors none 4 [some (.ref (g.2.1 116)), some (.int x1), some (.int (x2 + 1)), some (.int (x3 + 1)), none] [] σ P)))))) :
  TT g (vt_R 0) 0 0 D_X2_anchors none 4 [some (.ref (g.2.1 116)), some (.int x1), some (.int x2), some (.int x3), none] [] σ P := by
  refine q_iload_n dX2_anchors_4 rfl ?_
  refine q_aload_n dX2_anchors_5 rfl ?_
  refine q_getR dX2_anchors_6 fF_RX2_24 fl_116_0 ?_
  refine q_getR dX2_anchors_9 fF_RX2_64 fl_1_3 ?_
  refine q_getX (x := (σ 7 7)) dX2_anchors_12 fF_RX2_68 fl_7_7 rfl ?_
  refine q_icmp_ge (tgt := 71) dX2_anchors_15 (by decide) (fun c1 => ?_) (fun c1 => ?_)
  · have h := h.1 c1
    refine q_iload_n dX2_anchors_71 rfl ?_
    exact q_iret .int rfl rfl dX2_anchors_72 h
  · have h := h.2 c1
    refine q_iload_n dX2_anchors_18 rfl ?_
    refine q_iload_n dX2_anchors_19 rfl ?_
    refine q_icmp_eq (tgt := 38) dX2_anchors_20 (by decide) (fun c2 => ?_) (fun c2 => ?_)
    · have h := h.1 c2
      refine q_iconst (v := 0) dX2_anchors_38 (by decide) ?_
      refine q_istore (L' := [some (.ref (g.2.1 116)), some (.int x1), some (.int x2), some (.int x3), some (.int 0)]) dX2_anchors_39 (by decide) rfl rfl ?_
      refine q_iload dX2_anchors_41 rfl ?_
      refine q_if_eq (tgt := 65) dX2_anchors_43 (by decide) (fun _ => ?_) (fun c => absurd (by decide) c)
      refine q_iinc (L' := [some (.ref (g.2.1 116)), some (.int x1), some (.int x2), some (.int (x3 + 1)), some (.int 0)]) dX2_anchors_65 rfl (by decide) rfl rfl ?_
      refine q_goto (tgt := 4) dX2_anchors_68 (by decide) ?_
      exact q_wk (by simp [vt_le]) h
    · have h := h.2 c2
      refine q_aload_n dX2_anchors_23 rfl ?_
      refine q_getR dX2_anchors_24 fF_RX2_9 fl_116_3 ?_
      refine q_iload_n dX2_anchors_27 rfl ?_
      obtain ⟨hi3, h⟩ := h
      refine q_ialdX (v := (σ 117 x3.toNatClampNeg)) dX2_anchors_28 ar_117 hi3 rfl ?_
      refine q_ldc dX2_anchors_29 ct_RX2_32 ?_
      refine q_icmp_eq (tgt := 38) dX2_anchors_31 (by decide) (fun c4 => ?_) (fun c4 => ?_)
      · have h := h.1 c4
        refine q_iconst (v := 0) dX2_anchors_38 (by decide) ?_
        refine q_istore (L' := [some (.ref (g.2.1 116)), some (.int x1), some (.int x2), some (.int x3), some (.int 0)]) dX2_anchors_39 (by decide) rfl rfl ?_
        refine q_iload dX2_anchors_41 rfl ?_
        refine q_if_eq (tgt := 65) dX2_anchors_43 (by decide) (fun _ => ?_) (fun c => absurd (by decide) c)
        refine q_iinc (L' := [some (.ref (g.2.1 116)), some (.int x1), some (.int x2), some (.int (x3 + 1)), some (.int 0)]) dX2_anchors_65 rfl (by decide) rfl rfl ?_
        refine q_goto (tgt := 4) dX2_anchors_68 (by decide) ?_
        exact q_wk (by simp [vt_le]) h
      · have h := h.2 c4
        refine q_iconst (v := 1) dX2_anchors_34 (by decide) ?_
        refine q_goto (tgt := 39) dX2_anchors_35 (by decide) ?_
        refine q_istore (L' := [some (.ref (g.2.1 116)), some (.int x1), some (.int x2), some (.int x3), some (.int 1)]) dX2_anchors_39 (by decide) rfl rfl ?_
        refine q_iload dX2_anchors_41 rfl ?_
        refine q_if_eq (tgt := 65) dX2_anchors_43 (by decide) (fun c => absurd c (by decide)) (fun _ => ?_)
        refine q_aload_n dX2_anchors_46 rfl ?_
        refine q_getR dX2_anchors_47 fF_RX2_24 fl_116_0 ?_
        refine q_getR dX2_anchors_50 fF_RX2_64 fl_1_3 ?_
        refine q_getR dX2_anchors_53 fF_RX2_95 fl_7_0 ?_
        refine q_iload_n dX2_anchors_56 rfl ?_
        refine q_ialdX (v := (σ 8 x3.toNatClampNeg)) dX2_anchors_57 ar_8 hi3 rfl ?_
        refine q_iconst (v := 1) dX2_anchors_58 (by decide) ?_
        refine q_icmp_ne (tgt := 65) dX2_anchors_59 (by decide) (fun c5 => ?_) (fun c5 => ?_)
        · have h := h.1 c5
          refine q_iinc (L' := [some (.ref (g.2.1 116)), some (.int x1), some (.int x2), some (.int (x3 + 1)), some (.int 1)]) dX2_anchors_65 rfl (by decide) rfl rfl ?_
          refine q_goto (tgt := 4) dX2_anchors_68 (by decide) ?_
          exact q_wk (by simp [vt_le]) h
        · have h := h.2 c5
          refine q_iinc (L' := [some (.ref (g.2.1 116)), some (.int x1), some (.int (x2 + 1)), some (.int x3), some (.int 1)]) dX2_anchors_62 rfl (by decide) rfl rfl ?_
          refine q_iinc (L' := [some (.ref (g.2.1 116)), some (.int x1), some (.int (x2 + 1)), some (.int (x3 + 1)), some (.int 1)]) dX2_anchors_65 rfl (by decide) rfl rfl ?_
          refine q_goto (tgt := 4) dX2_anchors_68 (by decide) ?_
          exact q_wk (by simp [vt_le]) h

theorem s_X2_beside_0 (g : vt_GT) (σ : vt_Sg) (P : Option Value → vt_Sg → Prop) (p1 : Int32)
  (h : (p1 ≤ 0 → (11 ≤ p1 → P (some (.int 0)) σ) ∧ (¬ 11 ≤ p1 → vp_in (p1 + 1) 12 ∧ (((σ 118 (p1 + 1).toNatClampNeg) = (-1000000005) → P (some (.int 0)) σ) ∧ (¬ (σ 118 (p1 + 1).toNatClampNeg) = (-1000000005) → P (some (.int 1)) σ)))) ∧ (¬ p1 ≤ 0 → vp_in (p1 - 1) 12 ∧ (((σ 118 (p1 - 1).toNatClampNeg) = (-1000000005) → (11 ≤ p1 → P (some (.int 0)) σ) ∧ (¬ 11 ≤ p1 → vp_in (p1 + 1) 12 ∧ (((σ 118 (p1 + 1).toNatClampNeg) = (-1000000005) → P (some (.int 0)) σ) ∧ (¬ (σ 118 (p1 + 1).toNatClampNeg) = (-1000000005) → P (some (.int 1)) σ)))) ∧ (¬ (σ 118 (p1 - 1).toNatClampNeg) = (-1000000005) → (11 ≤ p1 → P (some (.int 1)) σ) ∧ (¬ 11 ≤ p1 → vp_in (p1 + 1) 12 ∧ (((σ 118 (p1 + 1).toNatClampNeg) = (-1000000005) → P (some (.int 1)) σ) ∧ (¬ (σ 118 (p1 + 1).toNatClampNeg) = (-1000000005) → P (some (.int 2)) σ))))))) :
  TT g (vt_R 0) 0 0 D_X2_beside none 0 [some (.ref (g.2.1 116)), some (.int p1), none] [] σ P := by
  refine q_iconst (v := 0) dX2_beside_0 (by decide) ?_
  refine q_istore_n (L' := [some (.ref (g.2.1 116)), some (.int p1), some (.int 0)]) dX2_beside_1 (by decide) rfl rfl ?_
  refine q_iload_n dX2_beside_2 rfl ?_
  refine q_if_le (tgt := 22) dX2_beside_3 (by decide) (fun c1 => ?_) (fun c1 => ?_)
  · have h := h.1 c1
    refine q_iload_n dX2_beside_22 rfl ?_
    refine q_bipush (v := 11) dX2_beside_23 (by decide) ?_
    refine q_icmp_ge (tgt := 44) dX2_beside_25 (by decide) (fun c2 => ?_) (fun c2 => ?_)
    · have h := h.1 c2
      refine q_iload_n dX2_beside_44 rfl ?_
      exact q_iret .int rfl rfl dX2_beside_45 h
    · have h := h.2 c2
      refine q_aload_n dX2_beside_28 rfl ?_
      refine q_getR dX2_beside_29 fF_RX2_15 fl_116_4 ?_
      refine q_iload_n dX2_beside_32 rfl ?_
      refine q_iconst (v := 1) dX2_beside_33 (by decide) ?_
      refine q_iadd dX2_beside_34 ?_
      obtain ⟨hi3, h⟩ := h
      refine q_ialdX (v := (σ 118 (p1 + 1).toNatClampNeg)) dX2_beside_35 ar_118 hi3 rfl ?_
      refine q_ldc dX2_beside_36 ct_RX2_32 ?_
      refine q_icmp_eq (tgt := 44) dX2_beside_38 (by decide) (fun c4 => ?_) (fun c4 => ?_)
      · have h := h.1 c4
        refine q_iload_n dX2_beside_44 rfl ?_
        exact q_iret .int rfl rfl dX2_beside_45 h
      · have h := h.2 c4
        refine q_iinc (L' := [some (.ref (g.2.1 116)), some (.int p1), some (.int 1)]) dX2_beside_41 rfl (by decide) rfl rfl ?_
        refine q_iload_n dX2_beside_44 rfl ?_
        exact q_iret .int rfl rfl dX2_beside_45 h
  · have h := h.2 c1
    refine q_aload_n dX2_beside_6 rfl ?_
    refine q_getR dX2_beside_7 fF_RX2_15 fl_116_4 ?_
    refine q_iload_n dX2_beside_10 rfl ?_
    refine q_iconst (v := 1) dX2_beside_11 (by decide) ?_
    refine q_isub dX2_beside_12 ?_
    obtain ⟨hi5, h⟩ := h
    refine q_ialdX (v := (σ 118 (p1 - 1).toNatClampNeg)) dX2_beside_13 ar_118 hi5 rfl ?_
    refine q_ldc dX2_beside_14 ct_RX2_32 ?_
    refine q_icmp_eq (tgt := 22) dX2_beside_16 (by decide) (fun c6 => ?_) (fun c6 => ?_)
    · have h := h.1 c6
      refine q_iload_n dX2_beside_22 rfl ?_
      refine q_bipush (v := 11) dX2_beside_23 (by decide) ?_
      refine q_icmp_ge (tgt := 44) dX2_beside_25 (by decide) (fun c7 => ?_) (fun c7 => ?_)
      · have h := h.1 c7
        refine q_iload_n dX2_beside_44 rfl ?_
        exact q_iret .int rfl rfl dX2_beside_45 h
      · have h := h.2 c7
        refine q_aload_n dX2_beside_28 rfl ?_
        refine q_getR dX2_beside_29 fF_RX2_15 fl_116_4 ?_
        refine q_iload_n dX2_beside_32 rfl ?_
        refine q_iconst (v := 1) dX2_beside_33 (by decide) ?_
        refine q_iadd dX2_beside_34 ?_
        obtain ⟨hi8, h⟩ := h
        refine q_ialdX (v := (σ 118 (p1 + 1).toNatClampNeg)) dX2_beside_35 ar_118 hi8 rfl ?_
        refine q_ldc dX2_beside_36 ct_RX2_32 ?_
        refine q_icmp_eq (tgt := 44) dX2_beside_38 (by decide) (fun c9 => ?_) (fun c9 => ?_)
        · have h := h.1 c9
          refine q_iload_n dX2_beside_44 rfl ?_
          exact q_iret .int rfl rfl dX2_beside_45 h
        · have h := h.2 c9
          refine q_iinc (L' := [some (.ref (g.2.1 116)), some (.int p1), some (.int 1)]) dX2_beside_41 rfl (by decide) rfl rfl ?_
          refine q_iload_n dX2_beside_44 rfl ?_
          exact q_iret .int rfl rfl dX2_beside_45 h
    · have h := h.2 c6
      refine q_iinc (L' := [some (.ref (g.2.1 116)), some (.int p1), some (.int 1)]) dX2_beside_19 rfl (by decide) rfl rfl ?_
      refine q_iload_n dX2_beside_22 rfl ?_
      refine q_bipush (v := 11) dX2_beside_23 (by decide) ?_
      refine q_icmp_ge (tgt := 44) dX2_beside_25 (by decide) (fun c10 => ?_) (fun c10 => ?_)
      · have h := h.1 c10
        refine q_iload_n dX2_beside_44 rfl ?_
        exact q_iret .int rfl rfl dX2_beside_45 h
      · have h := h.2 c10
        refine q_aload_n dX2_beside_28 rfl ?_
        refine q_getR dX2_beside_29 fF_RX2_15 fl_116_4 ?_
        refine q_iload_n dX2_beside_32 rfl ?_
        refine q_iconst (v := 1) dX2_beside_33 (by decide) ?_
        refine q_iadd dX2_beside_34 ?_
        obtain ⟨hi11, h⟩ := h
        refine q_ialdX (v := (σ 118 (p1 + 1).toNatClampNeg)) dX2_beside_35 ar_118 hi11 rfl ?_
        refine q_ldc dX2_beside_36 ct_RX2_32 ?_
        refine q_icmp_eq (tgt := 44) dX2_beside_38 (by decide) (fun c12 => ?_) (fun c12 => ?_)
        · have h := h.1 c12
          refine q_iload_n dX2_beside_44 rfl ?_
          exact q_iret .int rfl rfl dX2_beside_45 h
        · have h := h.2 c12
          refine q_iinc (L' := [some (.ref (g.2.1 116)), some (.int p1), some (.int 2)]) dX2_beside_41 rfl (by decide) rfl rfl ?_
          refine q_iload_n dX2_beside_44 rfl ?_
          exact q_iret .int rfl rfl dX2_beside_45 h

theorem s_X2_rivalNear_0 (g : vt_GT) (σ : vt_Sg) (P : Option Value → vt_Sg → Prop) (p1 : Int32)
  (h : vp_in p1 12 ∧ (TT g (vt_R 1) 0 0 D_X2_rivalNear none 9 [some (.ref (g.2.1 116)), some (.int p1), some (.int (σ 117 p1.toNatClampNeg)), some (.int 0), none, none] [] σ P)) :
  TT g (vt_R 1) 0 0 D_X2_rivalNear none 0 [some (.ref (g.2.1 116)), some (.int p1), none, none, none, none] [] σ P := by
  refine q_aload_n dX2_rivalNear_0 rfl ?_
  refine q_getR dX2_rivalNear_1 fF_RX2_9 fl_116_3 ?_
  refine q_iload_n dX2_rivalNear_4 rfl ?_
  obtain ⟨hi1, h⟩ := h
  refine q_ialdX (v := (σ 117 p1.toNatClampNeg)) dX2_rivalNear_5 ar_117 hi1 rfl ?_
  refine q_istore_n (L' := [some (.ref (g.2.1 116)), some (.int p1), some (.int (σ 117 p1.toNatClampNeg)), none, none, none]) dX2_rivalNear_6 (by decide) rfl rfl ?_
  refine q_iconst (v := 0) dX2_rivalNear_7 (by decide) ?_
  refine q_istore_n (L' := [some (.ref (g.2.1 116)), some (.int p1), some (.int (σ 117 p1.toNatClampNeg)), some (.int 0), none, none]) dX2_rivalNear_8 (by decide) rfl rfl ?_
  exact h

theorem s_X2_rivalNear_9 (g : vt_GT) (σ : vt_Sg) (P : Option Value → vt_Sg → Prop) (x1 : Int32) (x2 : Int32) (x3 : Int32)
  (h : (12 ≤ x3 → P (some (.int 0)) σ) ∧ (¬ 12 ≤ x3 → vp_in x3 12 ∧ (((σ 118 x3.toNatClampNeg) = (-1000000005) → TT g (vt_R 1) 0 0 D_X2_rivalNear none 9 [some (.ref (g.2.1 116)), some (.int x1), some (.int x2), some (.int (x3 + 1)), none, none] [] σ P) ∧ (¬ (σ 118 x3.toNatClampNeg) = (-1000000005) → ((σ 118 x3.toNatClampNeg) = x1 → TT g (vt_R 1) 0 0 D_X2_rivalNear none 9 [some (.ref (g.2.1 116)), some (.int x1), some (.int x2), some (.int (x3 + 1)), none, none] [] σ P) ∧ (¬ (σ 118 x3.toNatClampNeg) = x1 → vp_in (σ 118 x3.toNatClampNeg) 12 ∧ (vp_in x1 12 ∧ ((¬ (σ 9 (σ 118 x3.toNatClampNeg).toNatClampNeg) = (σ 9 x1.toNatClampNeg) → TT g (vt_R 1) 0 0 D_X2_rivalNear none 9 [some (.ref (g.2.1 116)), some (.int x1), some (.int x2), some (.int (x3 + 1)), none, none] [] σ P) ∧ ((σ 9 (σ 118 x3.toNatClampNeg).toNatClampNeg) = (σ 9 x1.toNatClampNeg) → ((σ 12 x1.toNatClampNeg) < (if 0 ≤ (x3 - x2) then (x3 - x2) else 0 - (x3 - x2)) → TT g (vt_R 1) 0 0 D_X2_rivalNear none 9 [some (.ref (g.2.1 116)), some (.int x1), some (.int x2), some (.int (x3 + 1)), none, none] [] σ P) ∧ (¬ (σ 12 x1.toNatClampNeg) < (if 0 ≤ (x3 - x2) then (x3 - x2) else 0 - (x3 - x2)) → P (some (.int 1)) σ))))))))) :
  TT g (vt_R 1) 0 0 D_X2_rivalNear none 9 [some (.ref (g.2.1 116)), some (.int x1), some (.int x2), some (.int x3), none, none] [] σ P := by
  refine q_iload_n dX2_rivalNear_9 rfl ?_
  refine q_bipush (v := 12) dX2_rivalNear_10 (by decide) ?_
  refine q_icmp_ge (tgt := 105) dX2_rivalNear_12 (by decide) (fun c1 => ?_) (fun c1 => ?_)
  · have h := h.1 c1
    refine q_iconst (v := 0) dX2_rivalNear_105 (by decide) ?_
    exact q_iret .boolean rfl rfl dX2_rivalNear_106 h
  · have h := h.2 c1
    refine q_aload_n dX2_rivalNear_15 rfl ?_
    refine q_getR dX2_rivalNear_16 fF_RX2_15 fl_116_4 ?_
    refine q_iload_n dX2_rivalNear_19 rfl ?_
    obtain ⟨hi2, h⟩ := h
    refine q_ialdX (v := (σ 118 x3.toNatClampNeg)) dX2_rivalNear_20 ar_118 hi2 rfl ?_
    refine q_istore (L' := [some (.ref (g.2.1 116)), some (.int x1), some (.int x2), some (.int x3), some (.int (σ 118 x3.toNatClampNeg)), none]) dX2_rivalNear_21 (by decide) rfl rfl ?_
    refine q_iload dX2_rivalNear_23 rfl ?_
    refine q_ldc dX2_rivalNear_25 ct_RX2_32 ?_
    refine q_icmp_eq (tgt := 68) dX2_rivalNear_27 (by decide) (fun c3 => ?_) (fun c3 => ?_)
    · have h := h.1 c3
      refine q_iconst (v := 0) dX2_rivalNear_68 (by decide) ?_
      refine q_istore (L' := [some (.ref (g.2.1 116)), some (.int x1), some (.int x2), some (.int x3), some (.int (σ 118 x3.toNatClampNeg)), some (.int 0)]) dX2_rivalNear_69 (by decide) rfl rfl ?_
      refine q_iload dX2_rivalNear_71 rfl ?_
      refine q_if_eq (tgt := 99) dX2_rivalNear_73 (by decide) (fun _ => ?_) (fun c => absurd (by decide) c)
      refine q_iinc (L' := [some (.ref (g.2.1 116)), some (.int x1), some (.int x2), some (.int (x3 + 1)), some (.int (σ 118 x3.toNatClampNeg)), some (.int 0)]) dX2_rivalNear_99 rfl (by decide) rfl rfl ?_
      refine q_goto (tgt := 9) dX2_rivalNear_102 (by decide) ?_
      exact q_wk (by simp [vt_le]) h
    · have h := h.2 c3
      refine q_iload dX2_rivalNear_30 rfl ?_
      refine q_iload_n dX2_rivalNear_32 rfl ?_
      refine q_icmp_eq (tgt := 68) dX2_rivalNear_33 (by decide) (fun c4 => ?_) (fun c4 => ?_)
      · have h := h.1 c4
        refine q_iconst (v := 0) dX2_rivalNear_68 (by decide) ?_
        refine q_istore (L' := [some (.ref (g.2.1 116)), some (.int x1), some (.int x2), some (.int x3), some (.int (σ 118 x3.toNatClampNeg)), some (.int 0)]) dX2_rivalNear_69 (by decide) rfl rfl ?_
        refine q_iload dX2_rivalNear_71 rfl ?_
        refine q_if_eq (tgt := 99) dX2_rivalNear_73 (by decide) (fun _ => ?_) (fun c => absurd (by decide) c)
        refine q_iinc (L' := [some (.ref (g.2.1 116)), some (.int x1), some (.int x2), some (.int (x3 + 1)), some (.int (σ 118 x3.toNatClampNeg)), some (.int 0)]) dX2_rivalNear_99 rfl (by decide) rfl rfl ?_
        refine q_goto (tgt := 9) dX2_rivalNear_102 (by decide) ?_
        exact q_wk (by simp [vt_le]) h
      · have h := h.2 c4
        refine q_aload_n dX2_rivalNear_36 rfl ?_
        refine q_getR dX2_rivalNear_37 fF_RX2_24 fl_116_0 ?_
        refine q_getR dX2_rivalNear_40 fF_RX2_64 fl_1_3 ?_
        refine q_getR dX2_rivalNear_43 fF_RX2_98 fl_7_1 ?_
        refine q_iload dX2_rivalNear_46 rfl ?_
        obtain ⟨hi5, h⟩ := h
        refine q_ialdX (v := (σ 9 (σ 118 x3.toNatClampNeg).toNatClampNeg)) dX2_rivalNear_48 ar_9 hi5 rfl ?_
        refine q_aload_n dX2_rivalNear_49 rfl ?_
        refine q_getR dX2_rivalNear_50 fF_RX2_24 fl_116_0 ?_
        refine q_getR dX2_rivalNear_53 fF_RX2_64 fl_1_3 ?_
        refine q_getR dX2_rivalNear_56 fF_RX2_98 fl_7_1 ?_
        refine q_iload_n dX2_rivalNear_59 rfl ?_
        obtain ⟨hi6, h⟩ := h
        refine q_ialdX (v := (σ 9 x1.toNatClampNeg)) dX2_rivalNear_60 ar_9 hi6 rfl ?_
        refine q_icmp_ne (tgt := 68) dX2_rivalNear_61 (by decide) (fun c7 => ?_) (fun c7 => ?_)
        · have h := h.1 c7
          refine q_iconst (v := 0) dX2_rivalNear_68 (by decide) ?_
          refine q_istore (L' := [some (.ref (g.2.1 116)), some (.int x1), some (.int x2), some (.int x3), some (.int (σ 118 x3.toNatClampNeg)), some (.int 0)]) dX2_rivalNear_69 (by decide) rfl rfl ?_
          refine q_iload dX2_rivalNear_71 rfl ?_
          refine q_if_eq (tgt := 99) dX2_rivalNear_73 (by decide) (fun _ => ?_) (fun c => absurd (by decide) c)
          refine q_iinc (L' := [some (.ref (g.2.1 116)), some (.int x1), some (.int x2), some (.int (x3 + 1)), some (.int (σ 118 x3.toNatClampNeg)), some (.int 0)]) dX2_rivalNear_99 rfl (by decide) rfl rfl ?_
          refine q_goto (tgt := 9) dX2_rivalNear_102 (by decide) ?_
          exact q_wk (by simp [vt_le]) h
        · have h := h.2 c7
          refine q_iconst (v := 1) dX2_rivalNear_64 (by decide) ?_
          refine q_goto (tgt := 69) dX2_rivalNear_65 (by decide) ?_
          refine q_istore (L' := [some (.ref (g.2.1 116)), some (.int x1), some (.int x2), some (.int x3), some (.int (σ 118 x3.toNatClampNeg)), some (.int 1)]) dX2_rivalNear_69 (by decide) rfl rfl ?_
          refine q_iload dX2_rivalNear_71 rfl ?_
          refine q_if_eq (tgt := 99) dX2_rivalNear_73 (by decide) (fun c => absurd c (by decide)) (fun _ => ?_)
          refine q_iload_n dX2_rivalNear_76 rfl ?_
          refine q_iload_n dX2_rivalNear_77 rfl ?_
          refine q_isub dX2_rivalNear_78 ?_
          refine q_abs dX2_rivalNear_79 mk_RX2_101 sta_abs ini_math cod_abs (Nat.le_of_ble_eq_true rfl) (by first | decide | omega) ?_
          refine q_aload_n dX2_rivalNear_82 rfl ?_
          refine q_getR dX2_rivalNear_83 fF_RX2_24 fl_116_0 ?_
          refine q_getR dX2_rivalNear_86 fF_RX2_64 fl_1_3 ?_
          refine q_getR dX2_rivalNear_89 fF_RX2_107 fl_7_4 ?_
          refine q_iload_n dX2_rivalNear_92 rfl ?_
          refine q_ialdX (v := (σ 12 x1.toNatClampNeg)) dX2_rivalNear_93 ar_12 hi6 rfl ?_
          refine q_icmp_gt (tgt := 99) dX2_rivalNear_94 (by decide) (fun c8 => ?_) (fun c8 => ?_)
          · have h := h.1 c8
            refine q_iinc (L' := [some (.ref (g.2.1 116)), some (.int x1), some (.int x2), some (.int (x3 + 1)), some (.int (σ 118 x3.toNatClampNeg)), some (.int 1)]) dX2_rivalNear_99 rfl (by decide) rfl rfl ?_
            refine q_goto (tgt := 9) dX2_rivalNear_102 (by decide) ?_
            exact q_wk (by simp [vt_le]) h
          · have h := h.2 c8
            refine q_iconst (v := 1) dX2_rivalNear_97 (by decide) ?_
            exact q_iret .boolean rfl rfl dX2_rivalNear_98 h

theorem s_X2_chargedFeet_0 (g : vt_GT) (σ : vt_Sg) (P : Option Value → vt_Sg → Prop) (p1 : Int32)
  (h : vp_in p1 12 ∧ (((σ 118 p1.toNatClampNeg) = (-1000000005) → P (some (.int 0)) σ) ∧ (¬ (σ 118 p1.toNatClampNeg) = (-1000000005) → vp_in (σ 118 p1.toNatClampNeg) 12 ∧ ((¬ (σ 8 (σ 118 p1.toNatClampNeg).toNatClampNeg) = 3 → P (some (.int (σ 2 p1.toNatClampNeg))) σ) ∧ ((σ 8 (σ 118 p1.toNatClampNeg).toNatClampNeg) = 3 → P (some (.int 0)) σ))))) :
  TT g (vt_R 0) 0 0 D_X2_chargedFeet none 0 [some (.ref (g.2.1 116)), some (.int p1), none] [] σ P := by
  refine q_aload_n dX2_chargedFeet_0 rfl ?_
  refine q_getR dX2_chargedFeet_1 fF_RX2_15 fl_116_4 ?_
  refine q_iload_n dX2_chargedFeet_4 rfl ?_
  obtain ⟨hi1, h⟩ := h
  refine q_ialdX (v := (σ 118 p1.toNatClampNeg)) dX2_chargedFeet_5 ar_118 hi1 rfl ?_
  refine q_istore_n (L' := [some (.ref (g.2.1 116)), some (.int p1), some (.int (σ 118 p1.toNatClampNeg))]) dX2_chargedFeet_6 (by decide) rfl rfl ?_
  refine q_iload_n dX2_chargedFeet_7 rfl ?_
  refine q_ldc dX2_chargedFeet_8 ct_RX2_32 ?_
  refine q_icmp_eq (tgt := 29) dX2_chargedFeet_10 (by decide) (fun c2 => ?_) (fun c2 => ?_)
  · have h := h.1 c2
    refine q_iconst (v := 0) dX2_chargedFeet_29 (by decide) ?_
    exact q_iret .int rfl rfl dX2_chargedFeet_30 h
  · have h := h.2 c2
    refine q_aload_n dX2_chargedFeet_13 rfl ?_
    refine q_getR dX2_chargedFeet_14 fF_RX2_24 fl_116_0 ?_
    refine q_getR dX2_chargedFeet_17 fF_RX2_64 fl_1_3 ?_
    refine q_getR dX2_chargedFeet_20 fF_RX2_95 fl_7_0 ?_
    refine q_iload_n dX2_chargedFeet_23 rfl ?_
    obtain ⟨hi3, h⟩ := h
    refine q_ialdX (v := (σ 8 (σ 118 p1.toNatClampNeg).toNatClampNeg)) dX2_chargedFeet_24 ar_8 hi3 rfl ?_
    refine q_iconst (v := 3) dX2_chargedFeet_25 (by decide) ?_
    refine q_icmp_ne (tgt := 31) dX2_chargedFeet_26 (by decide) (fun c4 => ?_) (fun c4 => ?_)
    · have h := h.1 c4
      refine q_aload_n dX2_chargedFeet_31 rfl ?_
      refine q_getR dX2_chargedFeet_32 fF_RX2_24 fl_116_0 ?_
      refine q_getR dX2_chargedFeet_35 fF_RX2_114 fl_1_0 ?_
      refine q_iload_n dX2_chargedFeet_38 rfl ?_
      refine q_ialdX (v := (σ 2 p1.toNatClampNeg)) dX2_chargedFeet_39 ar_2 hi1 rfl ?_
      exact q_iret .int rfl rfl dX2_chargedFeet_40 h
    · have h := h.2 c4
      refine q_iconst (v := 0) dX2_chargedFeet_29 (by decide) ?_
      exact q_iret .int rfl rfl dX2_chargedFeet_30 h

theorem s_X3_add_0 (g : vt_GT) (σ : vt_Sg) (P : Option Value → vt_Sg → Prop) (p1 : Int32) (p2 : Int32)
  (h : vp_in (σ 4 2) 4 ∧ (P (some (.int (((σ 4 2) + 1) - 1))) (su (su (su σ 5 (upd (σ 5) ((σ 4 2).toNatClampNeg) p1)) 6 (upd (σ 6) ((σ 4 2).toNatClampNeg) p2)) 4 (upd (σ 4) 2 ((σ 4 2) + 1))))) :
  TT g (vt_R 0) 0 0 D_X3_add none 0 [some (.ref (g.2.1 4)), some (.int p1), some (.int p2)] [] σ P := by
  refine q_aload_n dX3_add_0 rfl ?_
  refine q_getR dX3_add_1 fF_RX3_9 fl_4_0 ?_
  refine q_aload_n dX3_add_4 rfl ?_
  refine q_getX (x := (σ 4 2)) dX3_add_5 fF_RX3_18 fl_4_2 rfl ?_
  refine q_iload_n dX3_add_8 rfl ?_
  obtain ⟨hi1, h⟩ := h
  refine q_iastX (F := upd (σ 5) ((σ 4 2).toNatClampNeg) p1) dX3_add_9 ar_5 hi1 rfl ?_
  refine q_aload_n dX3_add_10 rfl ?_
  refine q_getR dX3_add_11 fF_RX3_15 fl_4_1 ?_
  refine q_aload_n dX3_add_14 rfl ?_
  refine q_getX (x := (σ 4 2)) dX3_add_15 fF_RX3_18 fl_4_2 rfl ?_
  refine q_iload_n dX3_add_18 rfl ?_
  refine q_iastX (F := upd (σ 6) ((σ 4 2).toNatClampNeg) p2) dX3_add_19 ar_6 hi1 rfl ?_
  refine q_aload_n dX3_add_20 rfl ?_
  refine q_dup dX3_add_21 rfl ?_
  refine q_getX (x := (σ 4 2)) dX3_add_22 fF_RX3_18 fl_4_2 rfl ?_
  refine q_iconst (v := 1) dX3_add_25 (by decide) ?_
  refine q_iadd dX3_add_26 ?_
  refine q_putX (F := upd (σ 4) 2 ((σ 4 2) + 1)) dX3_add_27 fF_RX3_18 fP_3_2 fl_4_2 rfl ?_
  refine q_aload_n dX3_add_30 rfl ?_
  refine q_getX (x := ((σ 4 2) + 1)) dX3_add_31 fF_RX3_18 fl_4_2 rfl ?_
  refine q_iconst (v := 1) dX3_add_34 (by decide) ?_
  refine q_isub dX3_add_35 ?_
  exact q_iret .int rfl rfl dX3_add_36 h

theorem s_X3_becomeK_0 (g : vt_GT) (σ : vt_Sg) (P : Option Value → vt_Sg → Prop) 
  (h : P none (su (su (su σ 58 (va_cpy (σ 5) (σ 58) 0 0 4)) 59 (va_cpy (σ 6) (σ 59) 0 0 4)) 57 (upd (σ 57) 2 (σ 4 2)))) :
  TT g (vt_R 1) 0 0 D_X3_become none 0 [some (.ref (g.2.1 57)), some (.ref (g.2.1 4))] [] σ P := by
  refine q_aload_n dX3_become_0 rfl ?_
  refine q_getR dX3_become_1 fF_RX3_9 fl_4_0 ?_
  refine q_iconst (v := 0) dX3_become_4 (by decide) ?_
  refine q_aload_n dX3_become_5 rfl ?_
  refine q_getR dX3_become_6 fF_RX3_9 fl_57_0 ?_
  refine q_iconst (v := 0) dX3_become_9 (by decide) ?_
  refine q_iconst (v := 4) dX3_become_10 (by decide) ?_
  refine q_copyX (F := va_cpy (σ 5) (σ 58) 0 0 4) dX3_become_11 mk_RX3_22 nat_copy sta_copy ini_sys ar_5 ar_58 (by decide) (by decide) (by decide) (by decide) (by decide) (by decide) (fun h => absurd h (by decide)) (by decide) rfl ?_
  refine q_aload_n dX3_become_14 rfl ?_
  refine q_getR dX3_become_15 fF_RX3_15 fl_4_1 ?_
  refine q_iconst (v := 0) dX3_become_18 (by decide) ?_
  refine q_aload_n dX3_become_19 rfl ?_
  refine q_getR dX3_become_20 fF_RX3_15 fl_57_1 ?_
  refine q_iconst (v := 0) dX3_become_23 (by decide) ?_
  refine q_iconst (v := 4) dX3_become_24 (by decide) ?_
  refine q_copyX (F := va_cpy (σ 6) (σ 59) 0 0 4) dX3_become_25 mk_RX3_22 nat_copy sta_copy ini_sys ar_6 ar_59 (by decide) (by decide) (by decide) (by decide) (by decide) (by decide) (fun h => absurd h (by decide)) (by decide) rfl ?_
  refine q_aload_n dX3_become_28 rfl ?_
  refine q_aload_n dX3_become_29 rfl ?_
  refine q_getX (x := (σ 4 2)) dX3_become_30 fF_RX3_18 fl_4_2 rfl ?_
  refine q_putX (F := upd (σ 57) 2 (σ 4 2)) dX3_become_33 fF_RX3_18 fP_3_2 fl_57_2 rfl ?_
  exact q_vret rfl dX3_become_36 h

theorem s_X3_becomeB_0 (g : vt_GT) (σ : vt_Sg) (P : Option Value → vt_Sg → Prop) 
  (h : P none (su (su (su σ 5 (va_cpy (σ 58) (σ 5) 0 0 4)) 6 (va_cpy (σ 59) (σ 6) 0 0 4)) 4 (upd (σ 4) 2 (σ 57 2)))) :
  TT g (vt_R 1) 0 0 D_X3_become none 0 [some (.ref (g.2.1 4)), some (.ref (g.2.1 57))] [] σ P := by
  refine q_aload_n dX3_become_0 rfl ?_
  refine q_getR dX3_become_1 fF_RX3_9 fl_57_0 ?_
  refine q_iconst (v := 0) dX3_become_4 (by decide) ?_
  refine q_aload_n dX3_become_5 rfl ?_
  refine q_getR dX3_become_6 fF_RX3_9 fl_4_0 ?_
  refine q_iconst (v := 0) dX3_become_9 (by decide) ?_
  refine q_iconst (v := 4) dX3_become_10 (by decide) ?_
  refine q_copyX (F := va_cpy (σ 58) (σ 5) 0 0 4) dX3_become_11 mk_RX3_22 nat_copy sta_copy ini_sys ar_58 ar_5 (by decide) (by decide) (by decide) (by decide) (by decide) (by decide) (fun h => absurd h (by decide)) (by decide) rfl ?_
  refine q_aload_n dX3_become_14 rfl ?_
  refine q_getR dX3_become_15 fF_RX3_15 fl_57_1 ?_
  refine q_iconst (v := 0) dX3_become_18 (by decide) ?_
  refine q_aload_n dX3_become_19 rfl ?_
  refine q_getR dX3_become_20 fF_RX3_15 fl_4_1 ?_
  refine q_iconst (v := 0) dX3_become_23 (by decide) ?_
  refine q_iconst (v := 4) dX3_become_24 (by decide) ?_
  refine q_copyX (F := va_cpy (σ 59) (σ 6) 0 0 4) dX3_become_25 mk_RX3_22 nat_copy sta_copy ini_sys ar_59 ar_6 (by decide) (by decide) (by decide) (by decide) (by decide) (by decide) (fun h => absurd h (by decide)) (by decide) rfl ?_
  refine q_aload_n dX3_become_28 rfl ?_
  refine q_aload_n dX3_become_29 rfl ?_
  refine q_getX (x := (σ 57 2)) dX3_become_30 fF_RX3_18 fl_57_2 rfl ?_
  refine q_putX (F := upd (σ 4) 2 (σ 57 2)) dX3_become_33 fF_RX3_18 fP_3_2 fl_4_2 rfl ?_
  exact q_vret rfl dX3_become_36 h

theorem s_X4_store_0 (g : vt_GT) (σ : vt_Sg) (P : Option Value → vt_Sg → Prop) (p1 : Int32)
  (h : vp_in p1 12 ∧ (P none (su (su (su σ (28 + p1.toNatClampNeg) (va_cpy (σ 108) (σ (28 + p1.toNatClampNeg)) 0 0 132)) (41 + p1.toNatClampNeg) (va_cpy ((su σ (28 + p1.toNatClampNeg) (va_cpy (σ 108) (σ (28 + p1.toNatClampNeg)) 0 0 132)) 109) ((su σ (28 + p1.toNatClampNeg) (va_cpy (σ 108) (σ (28 + p1.toNatClampNeg)) 0 0 132)) (41 + p1.toNatClampNeg)) 0 0 3)) 26 (upd ((su (su σ (28 + p1.toNatClampNeg) (va_cpy (σ 108) (σ (28 + p1.toNatClampNeg)) 0 0 132)) (41 + p1.toNatClampNeg) (va_cpy ((su σ (28 + p1.toNatClampNeg) (va_cpy (σ 108) (σ (28 + p1.toNatClampNeg)) 0 0 132)) 109) ((su σ (28 + p1.toNatClampNeg) (va_cpy (σ 108) (σ (28 + p1.toNatClampNeg)) 0 0 132)) (41 + p1.toNatClampNeg)) 0 0 3)) 26) p1.toNatClampNeg (vp_nar .boolean 1))))) :
  TT g (vt_R 1) 0 0 D_X4_store none 0 [some (.ref (g.2.1 25)), some (.int p1), some (.ref (g.2.1 107))] [] σ P := by
  refine q_aload_n dX4_store_0 rfl ?_
  refine q_getR dX4_store_1 fF_RX4_23 fl_107_1 ?_
  refine q_iconst (v := 0) dX4_store_4 (by decide) ?_
  refine q_aload_n dX4_store_5 rfl ?_
  refine q_getR dX4_store_6 fF_RX4_17 fl_25_1 ?_
  refine q_iload_n dX4_store_9 rfl ?_
  obtain ⟨hi1, h⟩ := h
  refine q_aald dX4_store_10 ar2_27 (by decide) hi1 ?_
  refine q_iconst (v := 0) dX4_store_11 (by decide) ?_
  refine q_sipush (v := 132) dX4_store_12 (by decide) ?_
  refine q_copyX (F := va_cpy (σ 108) (σ (28 + p1.toNatClampNeg)) 0 0 132) dX4_store_15 mk_RX4_28 nat_copy sta_copy ini_sys ar_108 (rw_27 hi1) (by decide) (by decide) (by decide) (by decide) (by decide) (by decide) (fun h => absurd h (by decide)) (by decide) rfl ?_
  refine q_aload_n dX4_store_18 rfl ?_
  refine q_getR dX4_store_19 fF_RX4_34 fl_107_2 ?_
  refine q_iconst (v := 0) dX4_store_22 (by decide) ?_
  refine q_aload_n dX4_store_23 rfl ?_
  refine q_getR dX4_store_24 fF_RX4_20 fl_25_2 ?_
  refine q_iload_n dX4_store_27 rfl ?_
  refine q_aald dX4_store_28 ar2_40 (by decide) hi1 ?_
  refine q_iconst (v := 0) dX4_store_29 (by decide) ?_
  refine q_iconst (v := 3) dX4_store_30 (by decide) ?_
  refine q_copyX (F := va_cpy ((su σ (28 + p1.toNatClampNeg) (va_cpy (σ 108) (σ (28 + p1.toNatClampNeg)) 0 0 132)) 109) ((su σ (28 + p1.toNatClampNeg) (va_cpy (σ 108) (σ (28 + p1.toNatClampNeg)) 0 0 132)) (41 + p1.toNatClampNeg)) 0 0 3) dX4_store_31 mk_RX4_28 nat_copy sta_copy ini_sys ar_109 (rw_40 hi1) (by decide) (by decide) (by decide) (by decide) (by decide) (by decide) (fun h => absurd h (by decide)) (by decide) rfl ?_
  refine q_aload_n dX4_store_34 rfl ?_
  refine q_getR dX4_store_35 fF_RX4_9 fl_25_0 ?_
  refine q_iload_n dX4_store_38 rfl ?_
  refine q_iconst (v := 1) dX4_store_39 (by decide) ?_
  refine q_zastX (F := upd ((su (su σ (28 + p1.toNatClampNeg) (va_cpy (σ 108) (σ (28 + p1.toNatClampNeg)) 0 0 132)) (41 + p1.toNatClampNeg) (va_cpy ((su σ (28 + p1.toNatClampNeg) (va_cpy (σ 108) (σ (28 + p1.toNatClampNeg)) 0 0 132)) 109) ((su σ (28 + p1.toNatClampNeg) (va_cpy (σ 108) (σ (28 + p1.toNatClampNeg)) 0 0 132)) (41 + p1.toNatClampNeg)) 0 0 3)) 26) p1.toNatClampNeg (vp_nar .boolean 1)) dX4_store_40 ar_26 hi1 rfl ?_
  exact q_vret rfl dX4_store_41 h

theorem s_X4_countHeld_0 (g : vt_GT) (σ : vt_Sg) (P : Option Value → vt_Sg → Prop) 
  (h : TT g (vt_R 0) 0 0 D_X4_countHeld none 4 [some (.ref (g.2.1 25)), some (.int 0), some (.int 0)] [] σ P) :
  TT g (vt_R 0) 0 0 D_X4_countHeld none 0 [some (.ref (g.2.1 25)), none, none] [] σ P := by
  refine q_iconst (v := 0) dX4_countHeld_0 (by decide) ?_
  refine q_istore_n (L' := [some (.ref (g.2.1 25)), some (.int 0), none]) dX4_countHeld_1 (by decide) rfl rfl ?_
  refine q_iconst (v := 0) dX4_countHeld_2 (by decide) ?_
  refine q_istore_n (L' := [some (.ref (g.2.1 25)), some (.int 0), some (.int 0)]) dX4_countHeld_3 (by decide) rfl rfl ?_
  exact h

theorem s_X4_countHeld_4 (g : vt_GT) (σ : vt_Sg) (P : Option Value → vt_Sg → Prop) (x1 : Int32) (x2 : Int32)
  (h : (12 ≤ x2 → P (some (.int x1)) σ) ∧ (¬ 12 ≤ x2 → vp_in x2 12 ∧ (((σ 26 x2.toNatClampNeg) = 0 → TT g (vt_R 0) 0 0 D_X4_countHeld none 4 [some (.ref (g.2.1 25)), some (.int x1), some (.int (x2 + 1))] [] σ P) ∧ (¬ (σ 26 x2.toNatClampNeg) = 0 → TT g (vt_R 0) 0 0 D_X4_countHeld none 4 [some (.ref (g.2.1 25)), some (.int (x1 + 1)), some (.int (x2 + 1))] [] σ P)))) :
  TT g (vt_R 0) 0 0 D_X4_countHeld none 4 [some (.ref (g.2.1 25)), some (.int x1), some (.int x2)] [] σ P := by
  refine q_iload_n dX4_countHeld_4 rfl ?_
  refine q_bipush (v := 12) dX4_countHeld_5 (by decide) ?_
  refine q_icmp_ge (tgt := 28) dX4_countHeld_7 (by decide) (fun c1 => ?_) (fun c1 => ?_)
  · have h := h.1 c1
    refine q_iload_n dX4_countHeld_28 rfl ?_
    exact q_iret .int rfl rfl dX4_countHeld_29 h
  · have h := h.2 c1
    refine q_aload_n dX4_countHeld_10 rfl ?_
    refine q_getR dX4_countHeld_11 fF_RX4_9 fl_25_0 ?_
    refine q_iload_n dX4_countHeld_14 rfl ?_
    obtain ⟨hi2, h⟩ := h
    refine q_zaldX (v := (σ 26 x2.toNatClampNeg)) dX4_countHeld_15 ar_26 hi2 rfl ?_
    refine q_if_eq (tgt := 22) dX4_countHeld_16 (by decide) (fun c3 => ?_) (fun c3 => ?_)
    · have h := h.1 c3
      refine q_iinc (L' := [some (.ref (g.2.1 25)), some (.int x1), some (.int (x2 + 1))]) dX4_countHeld_22 rfl (by decide) rfl rfl ?_
      refine q_goto (tgt := 4) dX4_countHeld_25 (by decide) ?_
      exact h
    · have h := h.2 c3
      refine q_iinc (L' := [some (.ref (g.2.1 25)), some (.int (x1 + 1)), some (.int x2)]) dX4_countHeld_19 rfl (by decide) rfl rfl ?_
      refine q_iinc (L' := [some (.ref (g.2.1 25)), some (.int (x1 + 1)), some (.int (x2 + 1))]) dX4_countHeld_22 rfl (by decide) rfl rfl ?_
      refine q_goto (tgt := 4) dX4_countHeld_25 (by decide) ?_
      exact h

theorem s_X4_becomeK_0 (g : vt_GT) (σ : vt_Sg) (P : Option Value → vt_Sg → Prop) 
  (h : TT g (vt_R 1) 0 0 D_X4_become none 2 [some (.ref (g.2.1 78)), some (.ref (g.2.1 25)), some (.int 0)] [] σ P) :
  TT g (vt_R 1) 0 0 D_X4_become none 0 [some (.ref (g.2.1 78)), some (.ref (g.2.1 25)), none] [] σ P := by
  refine q_iconst (v := 0) dX4_become_0 (by decide) ?_
  refine q_istore_n (L' := [some (.ref (g.2.1 78)), some (.ref (g.2.1 25)), some (.int 0)]) dX4_become_1 (by decide) rfl rfl ?_
  exact h

theorem s_X4_becomeK_2 (g : vt_GT) (σ : vt_Sg) (P : Option Value → vt_Sg → Prop) (x2 : Int32)
  (h : (12 ≤ x2 → P none σ) ∧ (¬ 12 ≤ x2 → vp_in x2 12 ∧ (TT g (vt_R 1) 0 0 D_X4_become none 2 [some (.ref (g.2.1 78)), some (.ref (g.2.1 25)), some (.int (x2 + 1))] [] (su (su (su σ 79 (upd (σ 79) x2.toNatClampNeg (vp_nar .boolean (σ 26 x2.toNatClampNeg)))) (81 + x2.toNatClampNeg) (va_cpy ((su σ 79 (upd (σ 79) x2.toNatClampNeg (vp_nar .boolean (σ 26 x2.toNatClampNeg)))) (28 + x2.toNatClampNeg)) ((su σ 79 (upd (σ 79) x2.toNatClampNeg (vp_nar .boolean (σ 26 x2.toNatClampNeg)))) (81 + x2.toNatClampNeg)) 0 0 132)) (94 + x2.toNatClampNeg) (va_cpy ((su (su σ 79 (upd (σ 79) x2.toNatClampNeg (vp_nar .boolean (σ 26 x2.toNatClampNeg)))) (81 + x2.toNatClampNeg) (va_cpy ((su σ 79 (upd (σ 79) x2.toNatClampNeg (vp_nar .boolean (σ 26 x2.toNatClampNeg)))) (28 + x2.toNatClampNeg)) ((su σ 79 (upd (σ 79) x2.toNatClampNeg (vp_nar .boolean (σ 26 x2.toNatClampNeg)))) (81 + x2.toNatClampNeg)) 0 0 132)) (41 + x2.toNatClampNeg)) ((su (su σ 79 (upd (σ 79) x2.toNatClampNeg (vp_nar .boolean (σ 26 x2.toNatClampNeg)))) (81 + x2.toNatClampNeg) (va_cpy ((su σ 79 (upd (σ 79) x2.toNatClampNeg (vp_nar .boolean (σ 26 x2.toNatClampNeg)))) (28 + x2.toNatClampNeg)) ((su σ 79 (upd (σ 79) x2.toNatClampNeg (vp_nar .boolean (σ 26 x2.toNatClampNeg)))) (81 + x2.toNatClampNeg)) 0 0 132)) (94 + x2.toNatClampNeg)) 0 0 3)) P))) :
  TT g (vt_R 1) 0 0 D_X4_become none 2 [some (.ref (g.2.1 78)), some (.ref (g.2.1 25)), some (.int x2)] [] σ P := by
  refine q_iload_n dX4_become_2 rfl ?_
  refine q_bipush (v := 12) dX4_become_3 (by decide) ?_
  refine q_icmp_ge (tgt := 64) dX4_become_5 (by decide) (fun c1 => ?_) (fun c1 => ?_)
  · have h := h.1 c1
    exact q_vret rfl dX4_become_64 h
  · have h := h.2 c1
    refine q_aload_n dX4_become_8 rfl ?_
    refine q_getR dX4_become_9 fF_RX4_9 fl_78_0 ?_
    refine q_iload_n dX4_become_12 rfl ?_
    refine q_aload_n dX4_become_13 rfl ?_
    refine q_getR dX4_become_14 fF_RX4_9 fl_25_0 ?_
    refine q_iload_n dX4_become_17 rfl ?_
    obtain ⟨hi2, h⟩ := h
    refine q_zaldX (v := (σ 26 x2.toNatClampNeg)) dX4_become_18 ar_26 hi2 rfl ?_
    refine q_zastX (F := upd (σ 79) x2.toNatClampNeg (vp_nar .boolean (σ 26 x2.toNatClampNeg))) dX4_become_19 ar_79 hi2 rfl ?_
    refine q_aload_n dX4_become_20 rfl ?_
    refine q_getR dX4_become_21 fF_RX4_17 fl_25_1 ?_
    refine q_iload_n dX4_become_24 rfl ?_
    refine q_aald dX4_become_25 ar2_27 (by decide) hi2 ?_
    refine q_iconst (v := 0) dX4_become_26 (by decide) ?_
    refine q_aload_n dX4_become_27 rfl ?_
    refine q_getR dX4_become_28 fF_RX4_17 fl_78_1 ?_
    refine q_iload_n dX4_become_31 rfl ?_
    refine q_aald dX4_become_32 ar2_80 (by decide) hi2 ?_
    refine q_iconst (v := 0) dX4_become_33 (by decide) ?_
    refine q_sipush (v := 132) dX4_become_34 (by decide) ?_
    refine q_copyX (F := va_cpy ((su σ 79 (upd (σ 79) x2.toNatClampNeg (vp_nar .boolean (σ 26 x2.toNatClampNeg)))) (28 + x2.toNatClampNeg)) ((su σ 79 (upd (σ 79) x2.toNatClampNeg (vp_nar .boolean (σ 26 x2.toNatClampNeg)))) (81 + x2.toNatClampNeg)) 0 0 132) dX4_become_37 mk_RX4_28 nat_copy sta_copy ini_sys (rw_27 hi2) (rw_80 hi2) (by decide) (by decide) (by decide) (by decide) (by decide) (by decide) (fun h => absurd h (by decide)) (by decide) rfl ?_
    refine q_aload_n dX4_become_40 rfl ?_
    refine q_getR dX4_become_41 fF_RX4_20 fl_25_2 ?_
    refine q_iload_n dX4_become_44 rfl ?_
    refine q_aald dX4_become_45 ar2_40 (by decide) hi2 ?_
    refine q_iconst (v := 0) dX4_become_46 (by decide) ?_
    refine q_aload_n dX4_become_47 rfl ?_
    refine q_getR dX4_become_48 fF_RX4_20 fl_78_2 ?_
    refine q_iload_n dX4_become_51 rfl ?_
    refine q_aald dX4_become_52 ar2_93 (by decide) hi2 ?_
    refine q_iconst (v := 0) dX4_become_53 (by decide) ?_
    refine q_iconst (v := 3) dX4_become_54 (by decide) ?_
    refine q_copyX (F := va_cpy ((su (su σ 79 (upd (σ 79) x2.toNatClampNeg (vp_nar .boolean (σ 26 x2.toNatClampNeg)))) (81 + x2.toNatClampNeg) (va_cpy ((su σ 79 (upd (σ 79) x2.toNatClampNeg (vp_nar .boolean (σ 26 x2.toNatClampNeg)))) (28 + x2.toNatClampNeg)) ((su σ 79 (upd (σ 79) x2.toNatClampNeg (vp_nar .boolean (σ 26 x2.toNatClampNeg)))) (81 + x2.toNatClampNeg)) 0 0 132)) (41 + x2.toNatClampNeg)) ((su (su σ 79 (upd (σ 79) x2.toNatClampNeg (vp_nar .boolean (σ 26 x2.toNatClampNeg)))) (81 + x2.toNatClampNeg) (va_cpy ((su σ 79 (upd (σ 79) x2.toNatClampNeg (vp_nar .boolean (σ 26 x2.toNatClampNeg)))) (28 + x2.toNatClampNeg)) ((su σ 79 (upd (σ 79) x2.toNatClampNeg (vp_nar .boolean (σ 26 x2.toNatClampNeg)))) (81 + x2.toNatClampNeg)) 0 0 132)) (94 + x2.toNatClampNeg)) 0 0 3) dX4_become_55 mk_RX4_28 nat_copy sta_copy ini_sys (rw_40 hi2) (rw_93 hi2) (by decide) (by decide) (by decide) (by decide) (by decide) (by decide) (fun h => absurd h (by decide)) (by decide) rfl ?_
    refine q_iinc (L' := [some (.ref (g.2.1 78)), some (.ref (g.2.1 25)), some (.int (x2 + 1))]) dX4_become_58 rfl (by decide) rfl rfl ?_
    refine q_goto (tgt := 2) dX4_become_61 (by decide) ?_
    exact h

theorem s_X4_becomeB_0 (g : vt_GT) (σ : vt_Sg) (P : Option Value → vt_Sg → Prop) 
  (h : TT g (vt_R 1) 0 0 D_X4_become none 2 [some (.ref (g.2.1 25)), some (.ref (g.2.1 78)), some (.int 0)] [] σ P) :
  TT g (vt_R 1) 0 0 D_X4_become none 0 [some (.ref (g.2.1 25)), some (.ref (g.2.1 78)), none] [] σ P := by
  refine q_iconst (v := 0) dX4_become_0 (by decide) ?_
  refine q_istore_n (L' := [some (.ref (g.2.1 25)), some (.ref (g.2.1 78)), some (.int 0)]) dX4_become_1 (by decide) rfl rfl ?_
  exact h

theorem s_X4_becomeB_2 (g : vt_GT) (σ : vt_Sg) (P : Option Value → vt_Sg → Prop) (x2 : Int32)
  (h : (12 ≤ x2 → P none σ) ∧ (¬ 12 ≤ x2 → vp_in x2 12 ∧ (TT g (vt_R 1) 0 0 D_X4_become none 2 [some (.ref (g.2.1 25)), some (.ref (g.2.1 78)), some (.int (x2 + 1))] [] (su (su (su σ 26 (upd (σ 26) x2.toNatClampNeg (vp_nar .boolean (σ 79 x2.toNatClampNeg)))) (28 + x2.toNatClampNeg) (va_cpy ((su σ 26 (upd (σ 26) x2.toNatClampNeg (vp_nar .boolean (σ 79 x2.toNatClampNeg)))) (81 + x2.toNatClampNeg)) ((su σ 26 (upd (σ 26) x2.toNatClampNeg (vp_nar .boolean (σ 79 x2.toNatClampNeg)))) (28 + x2.toNatClampNeg)) 0 0 132)) (41 + x2.toNatClampNeg) (va_cpy ((su (su σ 26 (upd (σ 26) x2.toNatClampNeg (vp_nar .boolean (σ 79 x2.toNatClampNeg)))) (28 + x2.toNatClampNeg) (va_cpy ((su σ 26 (upd (σ 26) x2.toNatClampNeg (vp_nar .boolean (σ 79 x2.toNatClampNeg)))) (81 + x2.toNatClampNeg)) ((su σ 26 (upd (σ 26) x2.toNatClampNeg (vp_nar .boolean (σ 79 x2.toNatClampNeg)))) (28 + x2.toNatClampNeg)) 0 0 132)) (94 + x2.toNatClampNeg)) ((su (su σ 26 (upd (σ 26) x2.toNatClampNeg (vp_nar .boolean (σ 79 x2.toNatClampNeg)))) (28 + x2.toNatClampNeg) (va_cpy ((su σ 26 (upd (σ 26) x2.toNatClampNeg (vp_nar .boolean (σ 79 x2.toNatClampNeg)))) (81 + x2.toNatClampNeg)) ((su σ 26 (upd (σ 26) x2.toNatClampNeg (vp_nar .boolean (σ 79 x2.toNatClampNeg)))) (28 + x2.toNatClampNeg)) 0 0 132)) (41 + x2.toNatClampNeg)) 0 0 3)) P))) :
  TT g (vt_R 1) 0 0 D_X4_become none 2 [some (.ref (g.2.1 25)), some (.ref (g.2.1 78)), some (.int x2)] [] σ P := by
  refine q_iload_n dX4_become_2 rfl ?_
  refine q_bipush (v := 12) dX4_become_3 (by decide) ?_
  refine q_icmp_ge (tgt := 64) dX4_become_5 (by decide) (fun c1 => ?_) (fun c1 => ?_)
  · have h := h.1 c1
    exact q_vret rfl dX4_become_64 h
  · have h := h.2 c1
    refine q_aload_n dX4_become_8 rfl ?_
    refine q_getR dX4_become_9 fF_RX4_9 fl_25_0 ?_
    refine q_iload_n dX4_become_12 rfl ?_
    refine q_aload_n dX4_become_13 rfl ?_
    refine q_getR dX4_become_14 fF_RX4_9 fl_78_0 ?_
    refine q_iload_n dX4_become_17 rfl ?_
    obtain ⟨hi2, h⟩ := h
    refine q_zaldX (v := (σ 79 x2.toNatClampNeg)) dX4_become_18 ar_79 hi2 rfl ?_
    refine q_zastX (F := upd (σ 26) x2.toNatClampNeg (vp_nar .boolean (σ 79 x2.toNatClampNeg))) dX4_become_19 ar_26 hi2 rfl ?_
    refine q_aload_n dX4_become_20 rfl ?_
    refine q_getR dX4_become_21 fF_RX4_17 fl_78_1 ?_
    refine q_iload_n dX4_become_24 rfl ?_
    refine q_aald dX4_become_25 ar2_80 (by decide) hi2 ?_
    refine q_iconst (v := 0) dX4_become_26 (by decide) ?_
    refine q_aload_n dX4_become_27 rfl ?_
    refine q_getR dX4_become_28 fF_RX4_17 fl_25_1 ?_
    refine q_iload_n dX4_become_31 rfl ?_
    refine q_aald dX4_become_32 ar2_27 (by decide) hi2 ?_
    refine q_iconst (v := 0) dX4_become_33 (by decide) ?_
    refine q_sipush (v := 132) dX4_become_34 (by decide) ?_
    refine q_copyX (F := va_cpy ((su σ 26 (upd (σ 26) x2.toNatClampNeg (vp_nar .boolean (σ 79 x2.toNatClampNeg)))) (81 + x2.toNatClampNeg)) ((su σ 26 (upd (σ 26) x2.toNatClampNeg (vp_nar .boolean (σ 79 x2.toNatClampNeg)))) (28 + x2.toNatClampNeg)) 0 0 132) dX4_become_37 mk_RX4_28 nat_copy sta_copy ini_sys (rw_80 hi2) (rw_27 hi2) (by decide) (by decide) (by decide) (by decide) (by decide) (by decide) (fun h => absurd h (by decide)) (by decide) rfl ?_
    refine q_aload_n dX4_become_40 rfl ?_
    refine q_getR dX4_become_41 fF_RX4_20 fl_78_2 ?_
    refine q_iload_n dX4_become_44 rfl ?_
    refine q_aald dX4_become_45 ar2_93 (by decide) hi2 ?_
    refine q_iconst (v := 0) dX4_become_46 (by decide) ?_
    refine q_aload_n dX4_become_47 rfl ?_
    refine q_getR dX4_become_48 fF_RX4_20 fl_25_2 ?_
    refine q_iload_n dX4_become_51 rfl ?_
    refine q_aald dX4_become_52 ar2_40 (by decide) hi2 ?_
    refine q_iconst (v := 0) dX4_become_53 (by decide) ?_
    refine q_iconst (v := 3) dX4_become_54 (by decide) ?_
    refine q_copyX (F := va_cpy ((su (su σ 26 (upd (σ 26) x2.toNatClampNeg (vp_nar .boolean (σ 79 x2.toNatClampNeg)))) (28 + x2.toNatClampNeg) (va_cpy ((su σ 26 (upd (σ 26) x2.toNatClampNeg (vp_nar .boolean (σ 79 x2.toNatClampNeg)))) (81 + x2.toNatClampNeg)) ((su σ 26 (upd (σ 26) x2.toNatClampNeg (vp_nar .boolean (σ 79 x2.toNatClampNeg)))) (28 + x2.toNatClampNeg)) 0 0 132)) (94 + x2.toNatClampNeg)) ((su (su σ 26 (upd (σ 26) x2.toNatClampNeg (vp_nar .boolean (σ 79 x2.toNatClampNeg)))) (28 + x2.toNatClampNeg) (va_cpy ((su σ 26 (upd (σ 26) x2.toNatClampNeg (vp_nar .boolean (σ 79 x2.toNatClampNeg)))) (81 + x2.toNatClampNeg)) ((su σ 26 (upd (σ 26) x2.toNatClampNeg (vp_nar .boolean (σ 79 x2.toNatClampNeg)))) (28 + x2.toNatClampNeg)) 0 0 132)) (41 + x2.toNatClampNeg)) 0 0 3) dX4_become_55 mk_RX4_28 nat_copy sta_copy ini_sys (rw_93 hi2) (rw_40 hi2) (by decide) (by decide) (by decide) (by decide) (by decide) (by decide) (fun h => absurd h (by decide)) (by decide) rfl ?_
    refine q_iinc (L' := [some (.ref (g.2.1 25)), some (.ref (g.2.1 78)), some (.int (x2 + 1))]) dX4_become_58 rfl (by decide) rfl rfl ?_
    refine q_goto (tgt := 2) dX4_become_61 (by decide) ?_
    exact h

theorem s_X5_add_0 (g : vt_GT) (σ : vt_Sg) (P : Option Value → vt_Sg → Prop) (p1 : Int32) (p2 : Int32) (p3 : Int32) (p4 : Int32)
  (h : vp_in (σ 19 5) 100 ∧ (P (some (.int (((σ 19 5) + 1) - 1))) (su (su (su (su (su (su σ 20 (upd (σ 20) ((σ 19 5).toNatClampNeg) p1)) 21 (upd (σ 21) ((σ 19 5).toNatClampNeg) p2)) 22 (upd (σ 22) ((σ 19 5).toNatClampNeg) p3)) 23 (upd (σ 23) ((σ 19 5).toNatClampNeg) p4)) 24 (upd (σ 24) ((σ 19 5).toNatClampNeg) (-1000000005))) 19 (upd (σ 19) 5 ((σ 19 5) + 1))))) :
  TT g (vt_R 0) 0 0 D_X5_add none 0 [some (.ref (g.2.1 19)), some (.int p1), some (.int p2), some (.int p3), some (.int p4)] [] σ P := by
  refine q_aload_n dX5_add_0 rfl ?_
  refine q_getR dX5_add_1 fF_RX5_9 fl_19_0 ?_
  refine q_aload_n dX5_add_4 rfl ?_
  refine q_getX (x := (σ 19 5)) dX5_add_5 fF_RX5_27 fl_19_5 rfl ?_
  refine q_iload_n dX5_add_8 rfl ?_
  obtain ⟨hi1, h⟩ := h
  refine q_iastX (F := upd (σ 20) ((σ 19 5).toNatClampNeg) p1) dX5_add_9 ar_20 hi1 rfl ?_
  refine q_aload_n dX5_add_10 rfl ?_
  refine q_getR dX5_add_11 fF_RX5_15 fl_19_1 ?_
  refine q_aload_n dX5_add_14 rfl ?_
  refine q_getX (x := (σ 19 5)) dX5_add_15 fF_RX5_27 fl_19_5 rfl ?_
  refine q_iload_n dX5_add_18 rfl ?_
  refine q_iastX (F := upd (σ 21) ((σ 19 5).toNatClampNeg) p2) dX5_add_19 ar_21 hi1 rfl ?_
  refine q_aload_n dX5_add_20 rfl ?_
  refine q_getR dX5_add_21 fF_RX5_18 fl_19_2 ?_
  refine q_aload_n dX5_add_24 rfl ?_
  refine q_getX (x := (σ 19 5)) dX5_add_25 fF_RX5_27 fl_19_5 rfl ?_
  refine q_iload_n dX5_add_28 rfl ?_
  refine q_iastX (F := upd (σ 22) ((σ 19 5).toNatClampNeg) p3) dX5_add_29 ar_22 hi1 rfl ?_
  refine q_aload_n dX5_add_30 rfl ?_
  refine q_getR dX5_add_31 fF_RX5_21 fl_19_3 ?_
  refine q_aload_n dX5_add_34 rfl ?_
  refine q_getX (x := (σ 19 5)) dX5_add_35 fF_RX5_27 fl_19_5 rfl ?_
  refine q_iload dX5_add_38 rfl ?_
  refine q_iastX (F := upd (σ 23) ((σ 19 5).toNatClampNeg) p4) dX5_add_40 ar_23 hi1 rfl ?_
  refine q_aload_n dX5_add_41 rfl ?_
  refine q_getR dX5_add_42 fF_RX5_24 fl_19_4 ?_
  refine q_aload_n dX5_add_45 rfl ?_
  refine q_getX (x := (σ 19 5)) dX5_add_46 fF_RX5_27 fl_19_5 rfl ?_
  refine q_ldc dX5_add_49 ct_RX5_31 ?_
  refine q_iastX (F := upd (σ 24) ((σ 19 5).toNatClampNeg) (-1000000005)) dX5_add_51 ar_24 hi1 rfl ?_
  refine q_aload_n dX5_add_52 rfl ?_
  refine q_dup dX5_add_53 rfl ?_
  refine q_getX (x := (σ 19 5)) dX5_add_54 fF_RX5_27 fl_19_5 rfl ?_
  refine q_iconst (v := 1) dX5_add_57 (by decide) ?_
  refine q_iadd dX5_add_58 ?_
  refine q_putX (F := upd (σ 19) 5 ((σ 19 5) + 1)) dX5_add_59 fF_RX5_27 fP_5_5 fl_19_5 rfl ?_
  refine q_aload_n dX5_add_62 rfl ?_
  refine q_getX (x := ((σ 19 5) + 1)) dX5_add_63 fF_RX5_27 fl_19_5 rfl ?_
  refine q_iconst (v := 1) dX5_add_66 (by decide) ?_
  refine q_isub dX5_add_67 ?_
  exact q_iret .int rfl rfl dX5_add_68 h

theorem s_X5_sum_0 (g : vt_GT) (σ : vt_Sg) (P : Option Value → vt_Sg → Prop) (p1 : Int32) (p2 : Int32) (p3 : Int32)
  (h : TT g (vt_R 1) 0 0 D_X5_sum none 6 [some (.ref (g.2.1 19)), some (.int p1), some (.int p2), some (.int p3), some (.int 0), some (.int 0)] [] σ P) :
  TT g (vt_R 1) 0 0 D_X5_sum none 0 [some (.ref (g.2.1 19)), some (.int p1), some (.int p2), some (.int p3), none, none] [] σ P := by
  refine q_iconst (v := 0) dX5_sum_0 (by decide) ?_
  refine q_istore (L' := [some (.ref (g.2.1 19)), some (.int p1), some (.int p2), some (.int p3), some (.int 0), none]) dX5_sum_1 (by decide) rfl rfl ?_
  refine q_iconst (v := 0) dX5_sum_3 (by decide) ?_
  refine q_istore (L' := [some (.ref (g.2.1 19)), some (.int p1), some (.int p2), some (.int p3), some (.int 0), some (.int 0)]) dX5_sum_4 (by decide) rfl rfl ?_
  exact h

theorem s_X5_sum_6 (g : vt_GT) (σ : vt_Sg) (P : Option Value → vt_Sg → Prop) (x1 : Int32) (x2 : Int32) (x3 : Int32) (x4 : Int32) (x5 : Int32)
  (h : ((σ 19 5) ≤ x5 → P (some (.int (if 0 < x4 then x4 else 0))) σ) ∧ (¬ (σ 19 5) ≤ x5 → vp_in x5 100 ∧ ((¬ (σ 20 x5.toNatClampNeg) = x1 → TT g (vt_R 1) 0 0 D_X5_sum none 6 [some (.ref (g.2.1 19)), some (.int x1), some (.int x2), some (.int x3), some (.int x4), some (.int (x5 + 1))] [] σ P) ∧ ((σ 20 x5.toNatClampNeg) = x1 → (¬ (σ 21 x5.toNatClampNeg) = x2 → TT g (vt_R 1) 0 0 D_X5_sum none 6 [some (.ref (g.2.1 19)), some (.int x1), some (.int x2), some (.int x3), some (.int x4), some (.int (x5 + 1))] [] σ P) ∧ ((σ 21 x5.toNatClampNeg) = x2 → ((¬ x3 < (σ 23 x5.toNatClampNeg) ∧ (σ 24 x5.toNatClampNeg = (-1000000005) ∨ x3 < (σ 24 x5.toNatClampNeg))) → TT g (vt_R 1) 0 0 D_X5_sum none 6 [some (.ref (g.2.1 19)), some (.int x1), some (.int x2), some (.int x3), some (.int (x4 + (σ 22 x5.toNatClampNeg))), some (.int (x5 + 1))] [] σ P) ∧ (¬ (¬ x3 < (σ 23 x5.toNatClampNeg) ∧ (σ 24 x5.toNatClampNeg = (-1000000005) ∨ x3 < (σ 24 x5.toNatClampNeg))) → TT g (vt_R 1) 0 0 D_X5_sum none 6 [some (.ref (g.2.1 19)), some (.int x1), some (.int x2), some (.int x3), some (.int x4), some (.int (x5 + 1))] [] σ P)))))) :
  TT g (vt_R 1) 0 0 D_X5_sum none 6 [some (.ref (g.2.1 19)), some (.int x1), some (.int x2), some (.int x3), some (.int x4), some (.int x5)] [] σ P := by
  refine q_iload dX5_sum_6 rfl ?_
  refine q_aload_n dX5_sum_8 rfl ?_
  refine q_getX (x := (σ 19 5)) dX5_sum_9 fF_RX5_27 fl_19_5 rfl ?_
  refine q_icmp_ge (tgt := 65) dX5_sum_12 (by decide) (fun c1 => ?_) (fun c1 => ?_)
  · have h := h.1 c1
    refine q_iconst (v := 0) dX5_sum_65 (by decide) ?_
    refine q_iload dX5_sum_66 rfl ?_
    refine q_max dX5_sum_68 mk_RX5_36 sta_max ini_math cod_max (Nat.le_of_ble_eq_true rfl) (by first | decide | omega) ?_
    exact q_iret .int rfl rfl dX5_sum_71 h
  · have h := h.2 c1
    refine q_aload_n dX5_sum_15 rfl ?_
    refine q_getR dX5_sum_16 fF_RX5_9 fl_19_0 ?_
    refine q_iload dX5_sum_19 rfl ?_
    obtain ⟨hi2, h⟩ := h
    refine q_ialdX (v := (σ 20 x5.toNatClampNeg)) dX5_sum_21 ar_20 hi2 rfl ?_
    refine q_iload_n dX5_sum_22 rfl ?_
    refine q_icmp_ne (tgt := 59) dX5_sum_23 (by decide) (fun c3 => ?_) (fun c3 => ?_)
    · have h := h.1 c3
      refine q_iinc (L' := [some (.ref (g.2.1 19)), some (.int x1), some (.int x2), some (.int x3), some (.int x4), some (.int (x5 + 1))]) dX5_sum_59 rfl (by decide) rfl rfl ?_
      refine q_goto (tgt := 6) dX5_sum_62 (by decide) ?_
      exact h
    · have h := h.2 c3
      refine q_aload_n dX5_sum_26 rfl ?_
      refine q_getR dX5_sum_27 fF_RX5_15 fl_19_1 ?_
      refine q_iload dX5_sum_30 rfl ?_
      refine q_ialdX (v := (σ 21 x5.toNatClampNeg)) dX5_sum_32 ar_21 hi2 rfl ?_
      refine q_iload_n dX5_sum_33 rfl ?_
      refine q_icmp_ne (tgt := 59) dX5_sum_34 (by decide) (fun c4 => ?_) (fun c4 => ?_)
      · have h := h.1 c4
        refine q_iinc (L' := [some (.ref (g.2.1 19)), some (.int x1), some (.int x2), some (.int x3), some (.int x4), some (.int (x5 + 1))]) dX5_sum_59 rfl (by decide) rfl rfl ?_
        refine q_goto (tgt := 6) dX5_sum_62 (by decide) ?_
        exact h
      · have h := h.2 c4
        refine q_aload_n dX5_sum_37 rfl ?_
        refine q_iload dX5_sum_38 rfl ?_
        refine q_iload_n dX5_sum_40 rfl ?_
        refine q_cVb (C := ¬ x3 < (σ 23 x5.toNatClampNeg) ∧ (σ 24 x5.toNatClampNeg = (-1000000005) ∨ x3 < (σ 24 x5.toNatClampNeg))) (d' := 0) [.int x5, .int x3] [] dX5_sum_41 ok_X5_counts mk_RX5_32 rc_19 rfl (Nat.le_of_ble_eq_true rfl) (by first | decide | omega) (fun Φ h9 => c_X5_counts (σ := σ) hi2 Φ h9) (fun c5 => ?_) (fun c5 => ?_)
        · have h := h.1 c5
          refine q_if_eq (tgt := 59) dX5_sum_44 (by decide) (fun c => absurd c (by decide)) (fun _ => ?_)
          refine q_iload dX5_sum_47 rfl ?_
          refine q_aload_n dX5_sum_49 rfl ?_
          refine q_getR dX5_sum_50 fF_RX5_18 fl_19_2 ?_
          refine q_iload dX5_sum_53 rfl ?_
          refine q_ialdX (v := (σ 22 x5.toNatClampNeg)) dX5_sum_55 ar_22 hi2 rfl ?_
          refine q_iadd dX5_sum_56 ?_
          refine q_istore (L' := [some (.ref (g.2.1 19)), some (.int x1), some (.int x2), some (.int x3), some (.int (x4 + (σ 22 x5.toNatClampNeg))), some (.int x5)]) dX5_sum_57 (by decide) rfl rfl ?_
          refine q_iinc (L' := [some (.ref (g.2.1 19)), some (.int x1), some (.int x2), some (.int x3), some (.int (x4 + (σ 22 x5.toNatClampNeg))), some (.int (x5 + 1))]) dX5_sum_59 rfl (by decide) rfl rfl ?_
          refine q_goto (tgt := 6) dX5_sum_62 (by decide) ?_
          exact h
        · have h := h.2 c5
          refine q_if_eq (tgt := 59) dX5_sum_44 (by decide) (fun _ => ?_) (fun c => absurd (by decide) c)
          refine q_iinc (L' := [some (.ref (g.2.1 19)), some (.int x1), some (.int x2), some (.int x3), some (.int x4), some (.int (x5 + 1))]) dX5_sum_59 rfl (by decide) rfl rfl ?_
          refine q_goto (tgt := 6) dX5_sum_62 (by decide) ?_
          exact h

theorem s_X5_countWithdrawn_0 (g : vt_GT) (σ : vt_Sg) (P : Option Value → vt_Sg → Prop) 
  (h : TT g (vt_R 0) 0 0 D_X5_countWithdrawn none 4 [some (.ref (g.2.1 19)), some (.int 0), some (.int 0)] [] σ P) :
  TT g (vt_R 0) 0 0 D_X5_countWithdrawn none 0 [some (.ref (g.2.1 19)), none, none] [] σ P := by
  refine q_iconst (v := 0) dX5_countWithdrawn_0 (by decide) ?_
  refine q_istore_n (L' := [some (.ref (g.2.1 19)), some (.int 0), none]) dX5_countWithdrawn_1 (by decide) rfl rfl ?_
  refine q_iconst (v := 0) dX5_countWithdrawn_2 (by decide) ?_
  refine q_istore_n (L' := [some (.ref (g.2.1 19)), some (.int 0), some (.int 0)]) dX5_countWithdrawn_3 (by decide) rfl rfl ?_
  exact h

theorem s_X5_countWithdrawn_4 (g : vt_GT) (σ : vt_Sg) (P : Option Value → vt_Sg → Prop) (x1 : Int32) (x2 : Int32)
  (h : ((σ 19 5) ≤ x2 → P (some (.int x1)) σ) ∧ (¬ (σ 19 5) ≤ x2 → vp_in x2 100 ∧ (((σ 24 x2.toNatClampNeg) = (-1000000005) → TT g (vt_R 0) 0 0 D_X5_countWithdrawn none 4 [some (.ref (g.2.1 19)), some (.int x1), some (.int (x2 + 1))] [] σ P) ∧ (¬ (σ 24 x2.toNatClampNeg) = (-1000000005) → TT g (vt_R 0) 0 0 D_X5_countWithdrawn none 4 [some (.ref (g.2.1 19)), some (.int (x1 + 1)), some (.int (x2 + 1))] [] σ P)))) :
  TT g (vt_R 0) 0 0 D_X5_countWithdrawn none 4 [some (.ref (g.2.1 19)), some (.int x1), some (.int x2)] [] σ P := by
  refine q_iload_n dX5_countWithdrawn_4 rfl ?_
  refine q_aload_n dX5_countWithdrawn_5 rfl ?_
  refine q_getX (x := (σ 19 5)) dX5_countWithdrawn_6 fF_RX5_27 fl_19_5 rfl ?_
  refine q_icmp_ge (tgt := 32) dX5_countWithdrawn_9 (by decide) (fun c1 => ?_) (fun c1 => ?_)
  · have h := h.1 c1
    refine q_iload_n dX5_countWithdrawn_32 rfl ?_
    exact q_iret .int rfl rfl dX5_countWithdrawn_33 h
  · have h := h.2 c1
    refine q_aload_n dX5_countWithdrawn_12 rfl ?_
    refine q_getR dX5_countWithdrawn_13 fF_RX5_24 fl_19_4 ?_
    refine q_iload_n dX5_countWithdrawn_16 rfl ?_
    obtain ⟨hi2, h⟩ := h
    refine q_ialdX (v := (σ 24 x2.toNatClampNeg)) dX5_countWithdrawn_17 ar_24 hi2 rfl ?_
    refine q_ldc dX5_countWithdrawn_18 ct_RX5_31 ?_
    refine q_icmp_eq (tgt := 26) dX5_countWithdrawn_20 (by decide) (fun c3 => ?_) (fun c3 => ?_)
    · have h := h.1 c3
      refine q_iinc (L' := [some (.ref (g.2.1 19)), some (.int x1), some (.int (x2 + 1))]) dX5_countWithdrawn_26 rfl (by decide) rfl rfl ?_
      refine q_goto (tgt := 4) dX5_countWithdrawn_29 (by decide) ?_
      exact h
    · have h := h.2 c3
      refine q_iinc (L' := [some (.ref (g.2.1 19)), some (.int (x1 + 1)), some (.int x2)]) dX5_countWithdrawn_23 rfl (by decide) rfl rfl ?_
      refine q_iinc (L' := [some (.ref (g.2.1 19)), some (.int (x1 + 1)), some (.int (x2 + 1))]) dX5_countWithdrawn_26 rfl (by decide) rfl rfl ?_
      refine q_goto (tgt := 4) dX5_countWithdrawn_29 (by decide) ?_
      exact h

theorem s_X5_becomeK_0 (g : vt_GT) (σ : vt_Sg) (P : Option Value → vt_Sg → Prop) 
  (h : P none (su (su (su (su (su (su σ 73 (va_cpy (σ 20) (σ 73) 0 0 100)) 74 (va_cpy (σ 21) (σ 74) 0 0 100)) 75 (va_cpy (σ 22) (σ 75) 0 0 100)) 76 (va_cpy (σ 23) (σ 76) 0 0 100)) 77 (va_cpy (σ 24) (σ 77) 0 0 100)) 72 (upd (σ 72) 5 (σ 19 5)))) :
  TT g (vt_R 1) 0 0 D_X5_become none 0 [some (.ref (g.2.1 72)), some (.ref (g.2.1 19))] [] σ P := by
  refine q_aload_n dX5_become_0 rfl ?_
  refine q_getR dX5_become_1 fF_RX5_9 fl_19_0 ?_
  refine q_iconst (v := 0) dX5_become_4 (by decide) ?_
  refine q_aload_n dX5_become_5 rfl ?_
  refine q_getR dX5_become_6 fF_RX5_9 fl_72_0 ?_
  refine q_iconst (v := 0) dX5_become_9 (by decide) ?_
  refine q_bipush (v := 100) dX5_become_10 (by decide) ?_
  refine q_copyX (F := va_cpy (σ 20) (σ 73) 0 0 100) dX5_become_12 mk_RX5_42 nat_copy sta_copy ini_sys ar_20 ar_73 (by decide) (by decide) (by decide) (by decide) (by decide) (by decide) (fun h => absurd h (by decide)) (by decide) rfl ?_
  refine q_aload_n dX5_become_15 rfl ?_
  refine q_getR dX5_become_16 fF_RX5_15 fl_19_1 ?_
  refine q_iconst (v := 0) dX5_become_19 (by decide) ?_
  refine q_aload_n dX5_become_20 rfl ?_
  refine q_getR dX5_become_21 fF_RX5_15 fl_72_1 ?_
  refine q_iconst (v := 0) dX5_become_24 (by decide) ?_
  refine q_bipush (v := 100) dX5_become_25 (by decide) ?_
  refine q_copyX (F := va_cpy (σ 21) (σ 74) 0 0 100) dX5_become_27 mk_RX5_42 nat_copy sta_copy ini_sys ar_21 ar_74 (by decide) (by decide) (by decide) (by decide) (by decide) (by decide) (fun h => absurd h (by decide)) (by decide) rfl ?_
  refine q_aload_n dX5_become_30 rfl ?_
  refine q_getR dX5_become_31 fF_RX5_18 fl_19_2 ?_
  refine q_iconst (v := 0) dX5_become_34 (by decide) ?_
  refine q_aload_n dX5_become_35 rfl ?_
  refine q_getR dX5_become_36 fF_RX5_18 fl_72_2 ?_
  refine q_iconst (v := 0) dX5_become_39 (by decide) ?_
  refine q_bipush (v := 100) dX5_become_40 (by decide) ?_
  refine q_copyX (F := va_cpy (σ 22) (σ 75) 0 0 100) dX5_become_42 mk_RX5_42 nat_copy sta_copy ini_sys ar_22 ar_75 (by decide) (by decide) (by decide) (by decide) (by decide) (by decide) (fun h => absurd h (by decide)) (by decide) rfl ?_
  refine q_aload_n dX5_become_45 rfl ?_
  refine q_getR dX5_become_46 fF_RX5_21 fl_19_3 ?_
  refine q_iconst (v := 0) dX5_become_49 (by decide) ?_
  refine q_aload_n dX5_become_50 rfl ?_
  refine q_getR dX5_become_51 fF_RX5_21 fl_72_3 ?_
  refine q_iconst (v := 0) dX5_become_54 (by decide) ?_
  refine q_bipush (v := 100) dX5_become_55 (by decide) ?_
  refine q_copyX (F := va_cpy (σ 23) (σ 76) 0 0 100) dX5_become_57 mk_RX5_42 nat_copy sta_copy ini_sys ar_23 ar_76 (by decide) (by decide) (by decide) (by decide) (by decide) (by decide) (fun h => absurd h (by decide)) (by decide) rfl ?_
  refine q_aload_n dX5_become_60 rfl ?_
  refine q_getR dX5_become_61 fF_RX5_24 fl_19_4 ?_
  refine q_iconst (v := 0) dX5_become_64 (by decide) ?_
  refine q_aload_n dX5_become_65 rfl ?_
  refine q_getR dX5_become_66 fF_RX5_24 fl_72_4 ?_
  refine q_iconst (v := 0) dX5_become_69 (by decide) ?_
  refine q_bipush (v := 100) dX5_become_70 (by decide) ?_
  refine q_copyX (F := va_cpy (σ 24) (σ 77) 0 0 100) dX5_become_72 mk_RX5_42 nat_copy sta_copy ini_sys ar_24 ar_77 (by decide) (by decide) (by decide) (by decide) (by decide) (by decide) (fun h => absurd h (by decide)) (by decide) rfl ?_
  refine q_aload_n dX5_become_75 rfl ?_
  refine q_aload_n dX5_become_76 rfl ?_
  refine q_getX (x := (σ 19 5)) dX5_become_77 fF_RX5_27 fl_19_5 rfl ?_
  refine q_putX (F := upd (σ 72) 5 (σ 19 5)) dX5_become_80 fF_RX5_27 fP_5_5 fl_72_5 rfl ?_
  exact q_vret rfl dX5_become_83 h

theorem s_X5_becomeB_0 (g : vt_GT) (σ : vt_Sg) (P : Option Value → vt_Sg → Prop) 
  (h : P none (su (su (su (su (su (su σ 20 (va_cpy (σ 73) (σ 20) 0 0 100)) 21 (va_cpy (σ 74) (σ 21) 0 0 100)) 22 (va_cpy (σ 75) (σ 22) 0 0 100)) 23 (va_cpy (σ 76) (σ 23) 0 0 100)) 24 (va_cpy (σ 77) (σ 24) 0 0 100)) 19 (upd (σ 19) 5 (σ 72 5)))) :
  TT g (vt_R 1) 0 0 D_X5_become none 0 [some (.ref (g.2.1 19)), some (.ref (g.2.1 72))] [] σ P := by
  refine q_aload_n dX5_become_0 rfl ?_
  refine q_getR dX5_become_1 fF_RX5_9 fl_72_0 ?_
  refine q_iconst (v := 0) dX5_become_4 (by decide) ?_
  refine q_aload_n dX5_become_5 rfl ?_
  refine q_getR dX5_become_6 fF_RX5_9 fl_19_0 ?_
  refine q_iconst (v := 0) dX5_become_9 (by decide) ?_
  refine q_bipush (v := 100) dX5_become_10 (by decide) ?_
  refine q_copyX (F := va_cpy (σ 73) (σ 20) 0 0 100) dX5_become_12 mk_RX5_42 nat_copy sta_copy ini_sys ar_73 ar_20 (by decide) (by decide) (by decide) (by decide) (by decide) (by decide) (fun h => absurd h (by decide)) (by decide) rfl ?_
  refine q_aload_n dX5_become_15 rfl ?_
  refine q_getR dX5_become_16 fF_RX5_15 fl_72_1 ?_
  refine q_iconst (v := 0) dX5_become_19 (by decide) ?_
  refine q_aload_n dX5_become_20 rfl ?_
  refine q_getR dX5_become_21 fF_RX5_15 fl_19_1 ?_
  refine q_iconst (v := 0) dX5_become_24 (by decide) ?_
  refine q_bipush (v := 100) dX5_become_25 (by decide) ?_
  refine q_copyX (F := va_cpy (σ 74) (σ 21) 0 0 100) dX5_become_27 mk_RX5_42 nat_copy sta_copy ini_sys ar_74 ar_21 (by decide) (by decide) (by decide) (by decide) (by decide) (by decide) (fun h => absurd h (by decide)) (by decide) rfl ?_
  refine q_aload_n dX5_become_30 rfl ?_
  refine q_getR dX5_become_31 fF_RX5_18 fl_72_2 ?_
  refine q_iconst (v := 0) dX5_become_34 (by decide) ?_
  refine q_aload_n dX5_become_35 rfl ?_
  refine q_getR dX5_become_36 fF_RX5_18 fl_19_2 ?_
  refine q_iconst (v := 0) dX5_become_39 (by decide) ?_
  refine q_bipush (v := 100) dX5_become_40 (by decide) ?_
  refine q_copyX (F := va_cpy (σ 75) (σ 22) 0 0 100) dX5_become_42 mk_RX5_42 nat_copy sta_copy ini_sys ar_75 ar_22 (by decide) (by decide) (by decide) (by decide) (by decide) (by decide) (fun h => absurd h (by decide)) (by decide) rfl ?_
  refine q_aload_n dX5_become_45 rfl ?_
  refine q_getR dX5_become_46 fF_RX5_21 fl_72_3 ?_
  refine q_iconst (v := 0) dX5_become_49 (by decide) ?_
  refine q_aload_n dX5_become_50 rfl ?_
  refine q_getR dX5_become_51 fF_RX5_21 fl_19_3 ?_
  refine q_iconst (v := 0) dX5_become_54 (by decide) ?_
  refine q_bipush (v := 100) dX5_become_55 (by decide) ?_
  refine q_copyX (F := va_cpy (σ 76) (σ 23) 0 0 100) dX5_become_57 mk_RX5_42 nat_copy sta_copy ini_sys ar_76 ar_23 (by decide) (by decide) (by decide) (by decide) (by decide) (by decide) (fun h => absurd h (by decide)) (by decide) rfl ?_
  refine q_aload_n dX5_become_60 rfl ?_
  refine q_getR dX5_become_61 fF_RX5_24 fl_72_4 ?_
  refine q_iconst (v := 0) dX5_become_64 (by decide) ?_
  refine q_aload_n dX5_become_65 rfl ?_
  refine q_getR dX5_become_66 fF_RX5_24 fl_19_4 ?_
  refine q_iconst (v := 0) dX5_become_69 (by decide) ?_
  refine q_bipush (v := 100) dX5_become_70 (by decide) ?_
  refine q_copyX (F := va_cpy (σ 77) (σ 24) 0 0 100) dX5_become_72 mk_RX5_42 nat_copy sta_copy ini_sys ar_77 ar_24 (by decide) (by decide) (by decide) (by decide) (by decide) (by decide) (fun h => absurd h (by decide)) (by decide) rfl ?_
  refine q_aload_n dX5_become_75 rfl ?_
  refine q_aload_n dX5_become_76 rfl ?_
  refine q_getX (x := (σ 72 5)) dX5_become_77 fF_RX5_27 fl_72_5 rfl ?_
  refine q_putX (F := upd (σ 19) 5 (σ 72 5)) dX5_become_80 fF_RX5_27 fP_5_5 fl_19_5 rfl ?_
  exact q_vret rfl dX5_become_83 h

theorem s_X7_add_0 (g : vt_GT) (σ : vt_Sg) (P : Option Value → vt_Sg → Prop) (p1 : Int32) (p2 : Int32) (p3 : Int32)
  (h : vp_in (σ 15 3) 200 ∧ (P none (su (su (su (su σ 16 (upd (σ 16) ((σ 15 3).toNatClampNeg) p1)) 17 (upd (σ 17) ((σ 15 3).toNatClampNeg) p2)) 18 (upd (σ 18) ((σ 15 3).toNatClampNeg) p3)) 15 (upd (σ 15) 3 ((σ 15 3) + 1))))) :
  TT g (vt_R 0) 0 0 D_X7_add none 0 [some (.ref (g.2.1 15)), some (.int p1), some (.int p2), some (.int p3)] [] σ P := by
  refine q_aload_n dX7_add_0 rfl ?_
  refine q_getR dX7_add_1 fF_RX7_9 fl_15_0 ?_
  refine q_aload_n dX7_add_4 rfl ?_
  refine q_getX (x := (σ 15 3)) dX7_add_5 fF_RX7_21 fl_15_3 rfl ?_
  refine q_iload_n dX7_add_8 rfl ?_
  obtain ⟨hi1, h⟩ := h
  refine q_iastX (F := upd (σ 16) ((σ 15 3).toNatClampNeg) p1) dX7_add_9 ar_16 hi1 rfl ?_
  refine q_aload_n dX7_add_10 rfl ?_
  refine q_getR dX7_add_11 fF_RX7_15 fl_15_1 ?_
  refine q_aload_n dX7_add_14 rfl ?_
  refine q_getX (x := (σ 15 3)) dX7_add_15 fF_RX7_21 fl_15_3 rfl ?_
  refine q_iload_n dX7_add_18 rfl ?_
  refine q_iastX (F := upd (σ 17) ((σ 15 3).toNatClampNeg) p2) dX7_add_19 ar_17 hi1 rfl ?_
  refine q_aload_n dX7_add_20 rfl ?_
  refine q_getR dX7_add_21 fF_RX7_18 fl_15_2 ?_
  refine q_aload_n dX7_add_24 rfl ?_
  refine q_getX (x := (σ 15 3)) dX7_add_25 fF_RX7_21 fl_15_3 rfl ?_
  refine q_iload_n dX7_add_28 rfl ?_
  refine q_iastX (F := upd (σ 18) ((σ 15 3).toNatClampNeg) p3) dX7_add_29 ar_18 hi1 rfl ?_
  refine q_aload_n dX7_add_30 rfl ?_
  refine q_dup dX7_add_31 rfl ?_
  refine q_getX (x := (σ 15 3)) dX7_add_32 fF_RX7_21 fl_15_3 rfl ?_
  refine q_iconst (v := 1) dX7_add_35 (by decide) ?_
  refine q_iadd dX7_add_36 ?_
  refine q_putX (F := upd (σ 15) 3 ((σ 15 3) + 1)) dX7_add_37 fF_RX7_21 fP_7_3 fl_15_3 rfl ?_
  exact q_vret rfl dX7_add_40 h

theorem s_X7_becomeK_0 (g : vt_GT) (σ : vt_Sg) (P : Option Value → vt_Sg → Prop) 
  (h : P none (su (su (su (su σ 69 (va_cpy (σ 16) (σ 69) 0 0 200)) 70 (va_cpy (σ 17) (σ 70) 0 0 200)) 71 (va_cpy (σ 18) (σ 71) 0 0 200)) 68 (upd (σ 68) 3 (σ 15 3)))) :
  TT g (vt_R 1) 0 0 D_X7_become none 0 [some (.ref (g.2.1 68)), some (.ref (g.2.1 15))] [] σ P := by
  refine q_aload_n dX7_become_0 rfl ?_
  refine q_getR dX7_become_1 fF_RX7_9 fl_15_0 ?_
  refine q_iconst (v := 0) dX7_become_4 (by decide) ?_
  refine q_aload_n dX7_become_5 rfl ?_
  refine q_getR dX7_become_6 fF_RX7_9 fl_68_0 ?_
  refine q_iconst (v := 0) dX7_become_9 (by decide) ?_
  refine q_sipush (v := 200) dX7_become_10 (by decide) ?_
  refine q_copyX (F := va_cpy (σ 16) (σ 69) 0 0 200) dX7_become_13 mk_RX7_25 nat_copy sta_copy ini_sys ar_16 ar_69 (by decide) (by decide) (by decide) (by decide) (by decide) (by decide) (fun h => absurd h (by decide)) (by decide) rfl ?_
  refine q_aload_n dX7_become_16 rfl ?_
  refine q_getR dX7_become_17 fF_RX7_15 fl_15_1 ?_
  refine q_iconst (v := 0) dX7_become_20 (by decide) ?_
  refine q_aload_n dX7_become_21 rfl ?_
  refine q_getR dX7_become_22 fF_RX7_15 fl_68_1 ?_
  refine q_iconst (v := 0) dX7_become_25 (by decide) ?_
  refine q_sipush (v := 200) dX7_become_26 (by decide) ?_
  refine q_copyX (F := va_cpy (σ 17) (σ 70) 0 0 200) dX7_become_29 mk_RX7_25 nat_copy sta_copy ini_sys ar_17 ar_70 (by decide) (by decide) (by decide) (by decide) (by decide) (by decide) (fun h => absurd h (by decide)) (by decide) rfl ?_
  refine q_aload_n dX7_become_32 rfl ?_
  refine q_getR dX7_become_33 fF_RX7_18 fl_15_2 ?_
  refine q_iconst (v := 0) dX7_become_36 (by decide) ?_
  refine q_aload_n dX7_become_37 rfl ?_
  refine q_getR dX7_become_38 fF_RX7_18 fl_68_2 ?_
  refine q_iconst (v := 0) dX7_become_41 (by decide) ?_
  refine q_sipush (v := 200) dX7_become_42 (by decide) ?_
  refine q_copyX (F := va_cpy (σ 18) (σ 71) 0 0 200) dX7_become_45 mk_RX7_25 nat_copy sta_copy ini_sys ar_18 ar_71 (by decide) (by decide) (by decide) (by decide) (by decide) (by decide) (fun h => absurd h (by decide)) (by decide) rfl ?_
  refine q_aload_n dX7_become_48 rfl ?_
  refine q_aload_n dX7_become_49 rfl ?_
  refine q_getX (x := (σ 15 3)) dX7_become_50 fF_RX7_21 fl_15_3 rfl ?_
  refine q_putX (F := upd (σ 68) 3 (σ 15 3)) dX7_become_53 fF_RX7_21 fP_7_3 fl_68_3 rfl ?_
  exact q_vret rfl dX7_become_56 h

theorem s_X7_becomeB_0 (g : vt_GT) (σ : vt_Sg) (P : Option Value → vt_Sg → Prop) 
  (h : P none (su (su (su (su σ 16 (va_cpy (σ 69) (σ 16) 0 0 200)) 17 (va_cpy (σ 70) (σ 17) 0 0 200)) 18 (va_cpy (σ 71) (σ 18) 0 0 200)) 15 (upd (σ 15) 3 (σ 68 3)))) :
  TT g (vt_R 1) 0 0 D_X7_become none 0 [some (.ref (g.2.1 15)), some (.ref (g.2.1 68))] [] σ P := by
  refine q_aload_n dX7_become_0 rfl ?_
  refine q_getR dX7_become_1 fF_RX7_9 fl_68_0 ?_
  refine q_iconst (v := 0) dX7_become_4 (by decide) ?_
  refine q_aload_n dX7_become_5 rfl ?_
  refine q_getR dX7_become_6 fF_RX7_9 fl_15_0 ?_
  refine q_iconst (v := 0) dX7_become_9 (by decide) ?_
  refine q_sipush (v := 200) dX7_become_10 (by decide) ?_
  refine q_copyX (F := va_cpy (σ 69) (σ 16) 0 0 200) dX7_become_13 mk_RX7_25 nat_copy sta_copy ini_sys ar_69 ar_16 (by decide) (by decide) (by decide) (by decide) (by decide) (by decide) (fun h => absurd h (by decide)) (by decide) rfl ?_
  refine q_aload_n dX7_become_16 rfl ?_
  refine q_getR dX7_become_17 fF_RX7_15 fl_68_1 ?_
  refine q_iconst (v := 0) dX7_become_20 (by decide) ?_
  refine q_aload_n dX7_become_21 rfl ?_
  refine q_getR dX7_become_22 fF_RX7_15 fl_15_1 ?_
  refine q_iconst (v := 0) dX7_become_25 (by decide) ?_
  refine q_sipush (v := 200) dX7_become_26 (by decide) ?_
  refine q_copyX (F := va_cpy (σ 70) (σ 17) 0 0 200) dX7_become_29 mk_RX7_25 nat_copy sta_copy ini_sys ar_70 ar_17 (by decide) (by decide) (by decide) (by decide) (by decide) (by decide) (fun h => absurd h (by decide)) (by decide) rfl ?_
  refine q_aload_n dX7_become_32 rfl ?_
  refine q_getR dX7_become_33 fF_RX7_18 fl_68_2 ?_
  refine q_iconst (v := 0) dX7_become_36 (by decide) ?_
  refine q_aload_n dX7_become_37 rfl ?_
  refine q_getR dX7_become_38 fF_RX7_18 fl_15_2 ?_
  refine q_iconst (v := 0) dX7_become_41 (by decide) ?_
  refine q_sipush (v := 200) dX7_become_42 (by decide) ?_
  refine q_copyX (F := va_cpy (σ 71) (σ 18) 0 0 200) dX7_become_45 mk_RX7_25 nat_copy sta_copy ini_sys ar_71 ar_18 (by decide) (by decide) (by decide) (by decide) (by decide) (by decide) (fun h => absurd h (by decide)) (by decide) rfl ?_
  refine q_aload_n dX7_become_48 rfl ?_
  refine q_aload_n dX7_become_49 rfl ?_
  refine q_getX (x := (σ 68 3)) dX7_become_50 fF_RX7_21 fl_68_3 rfl ?_
  refine q_putX (F := upd (σ 15) 3 (σ 68 3)) dX7_become_53 fF_RX7_21 fP_7_3 fl_15_3 rfl ?_
  exact q_vret rfl dX7_become_56 h

theorem s_X9_begin_0 (g : vt_GT) (σ : vt_Sg) (P : Option Value → vt_Sg → Prop) (p1 : Int32) (p2 : Int32)
  (h : vp_in p1 2 ∧ (vt_Mv g 0 D_J7_fill_fb410 [.ref (g.2.1 (113 + p1.toNatClampNeg)), .int 0] σ (fun σ2 => P none (su σ2 115 (upd (σ2 115) p1.toNatClampNeg p2))))) :
  TT g (vt_R 1) 0 0 D_X9_begin none 0 [some (.ref (g.2.1 111)), some (.int p1), some (.int p2)] [] σ P := by
  refine q_aload_n dX9_begin_0 rfl ?_
  refine q_getR dX9_begin_1 fF_RX9_11 fl_111_0 ?_
  refine q_iload_n dX9_begin_4 rfl ?_
  obtain ⟨hi1, h⟩ := h
  refine q_aald dX9_begin_5 ar2_112 (by decide) hi1 ?_
  refine q_iconst (v := 0) dX9_begin_6 (by decide) ?_
  refine q_cS (d' := 0) [.ref (g.2.1 (113 + p1.toNatClampNeg)), .int 0] [] dX9_begin_7 ok_J7_fill_fb410 mk_RX9_18 rfl (Nat.le_of_ble_eq_true rfl) (by first | decide | omega) h (fun v σ2 h => ?_)
  obtain ⟨rfl, h⟩ := h
  refine q_aload_n dX9_begin_10 rfl ?_
  refine q_getR dX9_begin_11 fF_RX9_14 fl_111_1 ?_
  refine q_iload_n dX9_begin_14 rfl ?_
  refine q_iload_n dX9_begin_15 rfl ?_
  refine q_iastX (F := upd (σ2 115) p1.toNatClampNeg p2) dX9_begin_16 ar_115 hi1 rfl ?_
  exact q_vret rfl dX9_begin_17 h

theorem s_X10_add_0 (g : vt_GT) (σ : vt_Sg) (P : Option Value → vt_Sg → Prop) (p1 : Int32) (p2 : Int32) (p3 : Int32) (p4 : Int32) (p5 : Int32)
  (h : vp_in (σ 7 7) 12 ∧ (P (some (.int (((σ 7 7) + 1) - 1))) (su (su (su (su (su (su (su (su σ 8 (upd (σ 8) ((σ 7 7).toNatClampNeg) p1)) 9 (upd (σ 9) ((σ 7 7).toNatClampNeg) p2)) 10 (upd (σ 10) ((σ 7 7).toNatClampNeg) (p3 / 1000))) 11 (upd (σ 11) ((σ 7 7).toNatClampNeg) (p3 - p3 / 1000 * 1000))) 12 (upd (σ 12) ((σ 7 7).toNatClampNeg) (p4 / 100))) 13 (upd (σ 13) ((σ 7 7).toNatClampNeg) (p4 - p4 / 100 * 100))) 14 (upd (σ 14) ((σ 7 7).toNatClampNeg) p5)) 7 (upd (σ 7) 7 ((σ 7 7) + 1))))) :
  TT g (vt_R 0) 0 0 D_X10_add none 0 [some (.ref (g.2.1 7)), some (.int p1), some (.int p2), some (.int p3), some (.int p4), some (.int p5)] [] σ P := by
  refine q_aload_n dX10_add_0 rfl ?_
  refine q_getR dX10_add_1 fF_RX10_9 fl_7_0 ?_
  refine q_aload_n dX10_add_4 rfl ?_
  refine q_getX (x := (σ 7 7)) dX10_add_5 fF_RX10_33 fl_7_7 rfl ?_
  refine q_iload_n dX10_add_8 rfl ?_
  obtain ⟨hi1, h⟩ := h
  refine q_iastX (F := upd (σ 8) ((σ 7 7).toNatClampNeg) p1) dX10_add_9 ar_8 hi1 rfl ?_
  refine q_aload_n dX10_add_10 rfl ?_
  refine q_getR dX10_add_11 fF_RX10_15 fl_7_1 ?_
  refine q_aload_n dX10_add_14 rfl ?_
  refine q_getX (x := (σ 7 7)) dX10_add_15 fF_RX10_33 fl_7_7 rfl ?_
  refine q_iload_n dX10_add_18 rfl ?_
  refine q_iastX (F := upd (σ 9) ((σ 7 7).toNatClampNeg) p2) dX10_add_19 ar_9 hi1 rfl ?_
  refine q_aload_n dX10_add_20 rfl ?_
  refine q_getR dX10_add_21 fF_RX10_18 fl_7_2 ?_
  refine q_aload_n dX10_add_24 rfl ?_
  refine q_getX (x := (σ 7 7)) dX10_add_25 fF_RX10_33 fl_7_7 rfl ?_
  refine q_iload_n dX10_add_28 rfl ?_
  refine q_sipush (v := 1000) dX10_add_29 (by decide) ?_
  refine q_idiv dX10_add_32 (by decide) ?_
  refine q_iastX (F := upd (σ 10) ((σ 7 7).toNatClampNeg) (p3 / 1000)) dX10_add_33 ar_10 hi1 rfl ?_
  refine q_aload_n dX10_add_34 rfl ?_
  refine q_getR dX10_add_35 fF_RX10_21 fl_7_3 ?_
  refine q_aload_n dX10_add_38 rfl ?_
  refine q_getX (x := (σ 7 7)) dX10_add_39 fF_RX10_33 fl_7_7 rfl ?_
  refine q_iload_n dX10_add_42 rfl ?_
  refine q_sipush (v := 1000) dX10_add_43 (by decide) ?_
  refine q_irem dX10_add_46 (by decide) ?_
  refine q_iastX (F := upd (σ 11) ((σ 7 7).toNatClampNeg) (p3 - p3 / 1000 * 1000)) dX10_add_47 ar_11 hi1 rfl ?_
  refine q_aload_n dX10_add_48 rfl ?_
  refine q_getR dX10_add_49 fF_RX10_24 fl_7_4 ?_
  refine q_aload_n dX10_add_52 rfl ?_
  refine q_getX (x := (σ 7 7)) dX10_add_53 fF_RX10_33 fl_7_7 rfl ?_
  refine q_iload dX10_add_56 rfl ?_
  refine q_bipush (v := 100) dX10_add_58 (by decide) ?_
  refine q_idiv dX10_add_60 (by decide) ?_
  refine q_iastX (F := upd (σ 12) ((σ 7 7).toNatClampNeg) (p4 / 100)) dX10_add_61 ar_12 hi1 rfl ?_
  refine q_aload_n dX10_add_62 rfl ?_
  refine q_getR dX10_add_63 fF_RX10_27 fl_7_5 ?_
  refine q_aload_n dX10_add_66 rfl ?_
  refine q_getX (x := (σ 7 7)) dX10_add_67 fF_RX10_33 fl_7_7 rfl ?_
  refine q_iload dX10_add_70 rfl ?_
  refine q_bipush (v := 100) dX10_add_72 (by decide) ?_
  refine q_irem dX10_add_74 (by decide) ?_
  refine q_iastX (F := upd (σ 13) ((σ 7 7).toNatClampNeg) (p4 - p4 / 100 * 100)) dX10_add_75 ar_13 hi1 rfl ?_
  refine q_aload_n dX10_add_76 rfl ?_
  refine q_getR dX10_add_77 fF_RX10_30 fl_7_6 ?_
  refine q_aload_n dX10_add_80 rfl ?_
  refine q_getX (x := (σ 7 7)) dX10_add_81 fF_RX10_33 fl_7_7 rfl ?_
  refine q_iload dX10_add_84 rfl ?_
  refine q_iastX (F := upd (σ 14) ((σ 7 7).toNatClampNeg) p5) dX10_add_86 ar_14 hi1 rfl ?_
  refine q_aload_n dX10_add_87 rfl ?_
  refine q_dup dX10_add_88 rfl ?_
  refine q_getX (x := (σ 7 7)) dX10_add_89 fF_RX10_33 fl_7_7 rfl ?_
  refine q_iconst (v := 1) dX10_add_92 (by decide) ?_
  refine q_iadd dX10_add_93 ?_
  refine q_putX (F := upd (σ 7) 7 ((σ 7 7) + 1)) dX10_add_94 fF_RX10_33 fP_10_7 fl_7_7 rfl ?_
  refine q_aload_n dX10_add_97 rfl ?_
  refine q_getX (x := ((σ 7 7) + 1)) dX10_add_98 fF_RX10_33 fl_7_7 rfl ?_
  refine q_iconst (v := 1) dX10_add_101 (by decide) ?_
  refine q_isub dX10_add_102 ?_
  exact q_iret .int rfl rfl dX10_add_103 h

theorem s_X10_becomeK_0 (g : vt_GT) (σ : vt_Sg) (P : Option Value → vt_Sg → Prop) 
  (h : P none (su (su (su (su (su (su (su (su σ 61 (va_cpy (σ 8) (σ 61) 0 0 12)) 62 (va_cpy (σ 9) (σ 62) 0 0 12)) 63 (va_cpy (σ 10) (σ 63) 0 0 12)) 64 (va_cpy (σ 11) (σ 64) 0 0 12)) 65 (va_cpy (σ 12) (σ 65) 0 0 12)) 66 (va_cpy (σ 13) (σ 66) 0 0 12)) 67 (va_cpy (σ 14) (σ 67) 0 0 12)) 60 (upd (σ 60) 7 (σ 7 7)))) :
  TT g (vt_R 1) 0 0 D_X10_become none 0 [some (.ref (g.2.1 60)), some (.ref (g.2.1 7))] [] σ P := by
  refine q_aload_n dX10_become_0 rfl ?_
  refine q_getR dX10_become_1 fF_RX10_9 fl_7_0 ?_
  refine q_iconst (v := 0) dX10_become_4 (by decide) ?_
  refine q_aload_n dX10_become_5 rfl ?_
  refine q_getR dX10_become_6 fF_RX10_9 fl_60_0 ?_
  refine q_iconst (v := 0) dX10_become_9 (by decide) ?_
  refine q_bipush (v := 12) dX10_become_10 (by decide) ?_
  refine q_copyX (F := va_cpy (σ 8) (σ 61) 0 0 12) dX10_become_12 mk_RX10_43 nat_copy sta_copy ini_sys ar_8 ar_61 (by decide) (by decide) (by decide) (by decide) (by decide) (by decide) (fun h => absurd h (by decide)) (by decide) rfl ?_
  refine q_aload_n dX10_become_15 rfl ?_
  refine q_getR dX10_become_16 fF_RX10_15 fl_7_1 ?_
  refine q_iconst (v := 0) dX10_become_19 (by decide) ?_
  refine q_aload_n dX10_become_20 rfl ?_
  refine q_getR dX10_become_21 fF_RX10_15 fl_60_1 ?_
  refine q_iconst (v := 0) dX10_become_24 (by decide) ?_
  refine q_bipush (v := 12) dX10_become_25 (by decide) ?_
  refine q_copyX (F := va_cpy (σ 9) (σ 62) 0 0 12) dX10_become_27 mk_RX10_43 nat_copy sta_copy ini_sys ar_9 ar_62 (by decide) (by decide) (by decide) (by decide) (by decide) (by decide) (fun h => absurd h (by decide)) (by decide) rfl ?_
  refine q_aload_n dX10_become_30 rfl ?_
  refine q_getR dX10_become_31 fF_RX10_18 fl_7_2 ?_
  refine q_iconst (v := 0) dX10_become_34 (by decide) ?_
  refine q_aload_n dX10_become_35 rfl ?_
  refine q_getR dX10_become_36 fF_RX10_18 fl_60_2 ?_
  refine q_iconst (v := 0) dX10_become_39 (by decide) ?_
  refine q_bipush (v := 12) dX10_become_40 (by decide) ?_
  refine q_copyX (F := va_cpy (σ 10) (σ 63) 0 0 12) dX10_become_42 mk_RX10_43 nat_copy sta_copy ini_sys ar_10 ar_63 (by decide) (by decide) (by decide) (by decide) (by decide) (by decide) (fun h => absurd h (by decide)) (by decide) rfl ?_
  refine q_aload_n dX10_become_45 rfl ?_
  refine q_getR dX10_become_46 fF_RX10_21 fl_7_3 ?_
  refine q_iconst (v := 0) dX10_become_49 (by decide) ?_
  refine q_aload_n dX10_become_50 rfl ?_
  refine q_getR dX10_become_51 fF_RX10_21 fl_60_3 ?_
  refine q_iconst (v := 0) dX10_become_54 (by decide) ?_
  refine q_bipush (v := 12) dX10_become_55 (by decide) ?_
  refine q_copyX (F := va_cpy (σ 11) (σ 64) 0 0 12) dX10_become_57 mk_RX10_43 nat_copy sta_copy ini_sys ar_11 ar_64 (by decide) (by decide) (by decide) (by decide) (by decide) (by decide) (fun h => absurd h (by decide)) (by decide) rfl ?_
  refine q_aload_n dX10_become_60 rfl ?_
  refine q_getR dX10_become_61 fF_RX10_24 fl_7_4 ?_
  refine q_iconst (v := 0) dX10_become_64 (by decide) ?_
  refine q_aload_n dX10_become_65 rfl ?_
  refine q_getR dX10_become_66 fF_RX10_24 fl_60_4 ?_
  refine q_iconst (v := 0) dX10_become_69 (by decide) ?_
  refine q_bipush (v := 12) dX10_become_70 (by decide) ?_
  refine q_copyX (F := va_cpy (σ 12) (σ 65) 0 0 12) dX10_become_72 mk_RX10_43 nat_copy sta_copy ini_sys ar_12 ar_65 (by decide) (by decide) (by decide) (by decide) (by decide) (by decide) (fun h => absurd h (by decide)) (by decide) rfl ?_
  refine q_aload_n dX10_become_75 rfl ?_
  refine q_getR dX10_become_76 fF_RX10_27 fl_7_5 ?_
  refine q_iconst (v := 0) dX10_become_79 (by decide) ?_
  refine q_aload_n dX10_become_80 rfl ?_
  refine q_getR dX10_become_81 fF_RX10_27 fl_60_5 ?_
  refine q_iconst (v := 0) dX10_become_84 (by decide) ?_
  refine q_bipush (v := 12) dX10_become_85 (by decide) ?_
  refine q_copyX (F := va_cpy (σ 13) (σ 66) 0 0 12) dX10_become_87 mk_RX10_43 nat_copy sta_copy ini_sys ar_13 ar_66 (by decide) (by decide) (by decide) (by decide) (by decide) (by decide) (fun h => absurd h (by decide)) (by decide) rfl ?_
  refine q_aload_n dX10_become_90 rfl ?_
  refine q_getR dX10_become_91 fF_RX10_30 fl_7_6 ?_
  refine q_iconst (v := 0) dX10_become_94 (by decide) ?_
  refine q_aload_n dX10_become_95 rfl ?_
  refine q_getR dX10_become_96 fF_RX10_30 fl_60_6 ?_
  refine q_iconst (v := 0) dX10_become_99 (by decide) ?_
  refine q_bipush (v := 12) dX10_become_100 (by decide) ?_
  refine q_copyX (F := va_cpy (σ 14) (σ 67) 0 0 12) dX10_become_102 mk_RX10_43 nat_copy sta_copy ini_sys ar_14 ar_67 (by decide) (by decide) (by decide) (by decide) (by decide) (by decide) (fun h => absurd h (by decide)) (by decide) rfl ?_
  refine q_aload_n dX10_become_105 rfl ?_
  refine q_aload_n dX10_become_106 rfl ?_
  refine q_getX (x := (σ 7 7)) dX10_become_107 fF_RX10_33 fl_7_7 rfl ?_
  refine q_putX (F := upd (σ 60) 7 (σ 7 7)) dX10_become_110 fF_RX10_33 fP_10_7 fl_60_7 rfl ?_
  exact q_vret rfl dX10_become_113 h

theorem s_X10_becomeB_0 (g : vt_GT) (σ : vt_Sg) (P : Option Value → vt_Sg → Prop) 
  (h : P none (su (su (su (su (su (su (su (su σ 8 (va_cpy (σ 61) (σ 8) 0 0 12)) 9 (va_cpy (σ 62) (σ 9) 0 0 12)) 10 (va_cpy (σ 63) (σ 10) 0 0 12)) 11 (va_cpy (σ 64) (σ 11) 0 0 12)) 12 (va_cpy (σ 65) (σ 12) 0 0 12)) 13 (va_cpy (σ 66) (σ 13) 0 0 12)) 14 (va_cpy (σ 67) (σ 14) 0 0 12)) 7 (upd (σ 7) 7 (σ 60 7)))) :
  TT g (vt_R 1) 0 0 D_X10_become none 0 [some (.ref (g.2.1 7)), some (.ref (g.2.1 60))] [] σ P := by
  refine q_aload_n dX10_become_0 rfl ?_
  refine q_getR dX10_become_1 fF_RX10_9 fl_60_0 ?_
  refine q_iconst (v := 0) dX10_become_4 (by decide) ?_
  refine q_aload_n dX10_become_5 rfl ?_
  refine q_getR dX10_become_6 fF_RX10_9 fl_7_0 ?_
  refine q_iconst (v := 0) dX10_become_9 (by decide) ?_
  refine q_bipush (v := 12) dX10_become_10 (by decide) ?_
  refine q_copyX (F := va_cpy (σ 61) (σ 8) 0 0 12) dX10_become_12 mk_RX10_43 nat_copy sta_copy ini_sys ar_61 ar_8 (by decide) (by decide) (by decide) (by decide) (by decide) (by decide) (fun h => absurd h (by decide)) (by decide) rfl ?_
  refine q_aload_n dX10_become_15 rfl ?_
  refine q_getR dX10_become_16 fF_RX10_15 fl_60_1 ?_
  refine q_iconst (v := 0) dX10_become_19 (by decide) ?_
  refine q_aload_n dX10_become_20 rfl ?_
  refine q_getR dX10_become_21 fF_RX10_15 fl_7_1 ?_
  refine q_iconst (v := 0) dX10_become_24 (by decide) ?_
  refine q_bipush (v := 12) dX10_become_25 (by decide) ?_
  refine q_copyX (F := va_cpy (σ 62) (σ 9) 0 0 12) dX10_become_27 mk_RX10_43 nat_copy sta_copy ini_sys ar_62 ar_9 (by decide) (by decide) (by decide) (by decide) (by decide) (by decide) (fun h => absurd h (by decide)) (by decide) rfl ?_
  refine q_aload_n dX10_become_30 rfl ?_
  refine q_getR dX10_become_31 fF_RX10_18 fl_60_2 ?_
  refine q_iconst (v := 0) dX10_become_34 (by decide) ?_
  refine q_aload_n dX10_become_35 rfl ?_
  refine q_getR dX10_become_36 fF_RX10_18 fl_7_2 ?_
  refine q_iconst (v := 0) dX10_become_39 (by decide) ?_
  refine q_bipush (v := 12) dX10_become_40 (by decide) ?_
  refine q_copyX (F := va_cpy (σ 63) (σ 10) 0 0 12) dX10_become_42 mk_RX10_43 nat_copy sta_copy ini_sys ar_63 ar_10 (by decide) (by decide) (by decide) (by decide) (by decide) (by decide) (fun h => absurd h (by decide)) (by decide) rfl ?_
  refine q_aload_n dX10_become_45 rfl ?_
  refine q_getR dX10_become_46 fF_RX10_21 fl_60_3 ?_
  refine q_iconst (v := 0) dX10_become_49 (by decide) ?_
  refine q_aload_n dX10_become_50 rfl ?_
  refine q_getR dX10_become_51 fF_RX10_21 fl_7_3 ?_
  refine q_iconst (v := 0) dX10_become_54 (by decide) ?_
  refine q_bipush (v := 12) dX10_become_55 (by decide) ?_
  refine q_copyX (F := va_cpy (σ 64) (σ 11) 0 0 12) dX10_become_57 mk_RX10_43 nat_copy sta_copy ini_sys ar_64 ar_11 (by decide) (by decide) (by decide) (by decide) (by decide) (by decide) (fun h => absurd h (by decide)) (by decide) rfl ?_
  refine q_aload_n dX10_become_60 rfl ?_
  refine q_getR dX10_become_61 fF_RX10_24 fl_60_4 ?_
  refine q_iconst (v := 0) dX10_become_64 (by decide) ?_
  refine q_aload_n dX10_become_65 rfl ?_
  refine q_getR dX10_become_66 fF_RX10_24 fl_7_4 ?_
  refine q_iconst (v := 0) dX10_become_69 (by decide) ?_
  refine q_bipush (v := 12) dX10_become_70 (by decide) ?_
  refine q_copyX (F := va_cpy (σ 65) (σ 12) 0 0 12) dX10_become_72 mk_RX10_43 nat_copy sta_copy ini_sys ar_65 ar_12 (by decide) (by decide) (by decide) (by decide) (by decide) (by decide) (fun h => absurd h (by decide)) (by decide) rfl ?_
  refine q_aload_n dX10_become_75 rfl ?_
  refine q_getR dX10_become_76 fF_RX10_27 fl_60_5 ?_
  refine q_iconst (v := 0) dX10_become_79 (by decide) ?_
  refine q_aload_n dX10_become_80 rfl ?_
  refine q_getR dX10_become_81 fF_RX10_27 fl_7_5 ?_
  refine q_iconst (v := 0) dX10_become_84 (by decide) ?_
  refine q_bipush (v := 12) dX10_become_85 (by decide) ?_
  refine q_copyX (F := va_cpy (σ 66) (σ 13) 0 0 12) dX10_become_87 mk_RX10_43 nat_copy sta_copy ini_sys ar_66 ar_13 (by decide) (by decide) (by decide) (by decide) (by decide) (by decide) (fun h => absurd h (by decide)) (by decide) rfl ?_
  refine q_aload_n dX10_become_90 rfl ?_
  refine q_getR dX10_become_91 fF_RX10_30 fl_60_6 ?_
  refine q_iconst (v := 0) dX10_become_94 (by decide) ?_
  refine q_aload_n dX10_become_95 rfl ?_
  refine q_getR dX10_become_96 fF_RX10_30 fl_7_6 ?_
  refine q_iconst (v := 0) dX10_become_99 (by decide) ?_
  refine q_bipush (v := 12) dX10_become_100 (by decide) ?_
  refine q_copyX (F := va_cpy (σ 67) (σ 14) 0 0 12) dX10_become_102 mk_RX10_43 nat_copy sta_copy ini_sys ar_67 ar_14 (by decide) (by decide) (by decide) (by decide) (by decide) (by decide) (fun h => absurd h (by decide)) (by decide) rfl ?_
  refine q_aload_n dX10_become_105 rfl ?_
  refine q_aload_n dX10_become_106 rfl ?_
  refine q_getX (x := (σ 60 7)) dX10_become_107 fF_RX10_33 fl_60_7 rfl ?_
  refine q_putX (F := upd (σ 7) 7 (σ 60 7)) dX10_become_110 fF_RX10_33 fP_10_7 fl_7_7 rfl ?_
  exact q_vret rfl dX10_become_113 h

