/-! METHODS THAT CHANGE NOTHING: their answers -/
/-- a sign's level in a lease's text -/
def lvl (p : Int32) : Int32 := if p = 38 then 1 else if p = 42 then 4 else if p = 43 then 3 else if p = 45 then 3 else if p = 47 then 4 else if p = 60 then 2 else if p = 61 then 2 else if p = 62 then 2 else if p = 124 then 0 else -1
/-- what the component's sign does -/
def jn (s a b : Int32) : Int32 := if s = 38 then (if ¬ a = 0 ∧ ¬ b = 0 then 1 else 0) else if s = 42 then a * b else if s = 43 then a + b else if s = 45 then a - b else if s = 47 then (if b = 0 then 0 else a / b) else if s = 60 then (if a < b then 1 else 0) else if s = 61 then (if a = b then 1 else 0) else if s = 62 then (if b < a then 1 else 0) else (if ¬ a = 0 ∨ ¬ b = 0 then 1 else 0)
/-- what the reference's code does -/
def dn (s a b : Int32) : Int32 := if s = 0 then (if ¬ a = 0 ∨ ¬ b = 0 then 1 else 0) else if s = 1 then (if ¬ a = 0 ∧ ¬ b = 0 then 1 else 0) else if s = 2 then (if a < b then 1 else 0) else if s = 3 then (if a = b then 1 else 0) else if s = 4 then (if b < a then 1 else 0) else if s = 5 then a + b else if s = 6 then a - b else if s = 7 then a * b else (if b = 0 then 0 else a / b)
theorem s_X11_within_0 (g : vt_GT) (σ : vt_Sg) (P : Option Value → vt_Sg → Prop) (p1 : Int32) (p2 : Int32) (p3 : Int32)
  (h : (p1 < p2 → P (some (.int 0)) σ) ∧ (¬ p1 < p2 → (p3 < p1 → P (some (.int 0)) σ) ∧ (¬ p3 < p1 → P (some (.int 1)) σ))) :
  TT g (vt_R 0) 0 0 D_X11_within none 0 [some (.int p1), some (.int p2), some (.int p3)] [] σ P := by
  refine q_iload_n dX11_within_0 rfl ?_
  refine q_iload_n dX11_within_1 rfl ?_
  refine q_icmp_lt (tgt := 14) dX11_within_2 (by decide) (fun c1 => ?_) (fun c1 => ?_)
  · have h := h.1 c1
    refine q_iconst (v := 0) dX11_within_14 (by decide) ?_
    exact q_iret .boolean rfl rfl dX11_within_15 h
  · have h := h.2 c1
    refine q_iload_n dX11_within_5 rfl ?_
    refine q_iload_n dX11_within_6 rfl ?_
    refine q_icmp_gt (tgt := 14) dX11_within_7 (by decide) (fun c2 => ?_) (fun c2 => ?_)
    · have h := h.1 c2
      refine q_iconst (v := 0) dX11_within_14 (by decide) ?_
      exact q_iret .boolean rfl rfl dX11_within_15 h
    · have h := h.2 c2
      refine q_iconst (v := 1) dX11_within_10 (by decide) ?_
      refine q_goto (tgt := 15) dX11_within_11 (by decide) ?_
      exact q_iret .boolean rfl rfl dX11_within_15 h

theorem c_X11_within {g : vt_GT} {σ : vt_Sg} {p1 p2 p3 : Int32}  (Φ : Int32 → vt_Sg → Prop) (h : ((¬ p1 < p2 ∧ ¬ p3 < p1) → Φ 1 σ) ∧ (¬ (¬ p1 < p2 ∧ ¬ p3 < p1) → Φ 0 σ)) : vt_Mi g 0 D_X11_within [.int p1, .int p2, .int p3] σ Φ :=
  mI ok_X11_within.1 rfl rfl rfl (s_X11_within_0 g σ _ p1 p2 p3 (by
    have h1 := h.1; have h2 := h.2; clear h
    repeat' (first | refine And.intro (fun c => ?_) (fun c => ?_) | (apply And.intro; assumption))
    all_goals (first | exact ⟨_, rfl, h1 (by clear h1 h2; simp_all)⟩ | exact ⟨_, rfl, h2 (by clear h1 h2; simp_all)⟩)))

theorem s_X11_isPlace_0 (g : vt_GT) (σ : vt_Sg) (P : Option Value → vt_Sg → Prop) (p1 : Int32)
  (h : ((¬ p1 < (0 : Int32) ∧ ¬ (11 : Int32) < p1) → P (some (.int 1)) σ) ∧ (¬ (¬ p1 < (0 : Int32) ∧ ¬ (11 : Int32) < p1) → P (some (.int 0)) σ)) :
  TT g (vt_R 1) 0 0 D_X11_isPlace none 0 [some (.int p1)] [] σ P := by
  refine q_iload_n dX11_isPlace_0 rfl ?_
  refine q_iconst (v := 0) dX11_isPlace_1 (by decide) ?_
  refine q_bipush (v := 11) dX11_isPlace_2 (by decide) ?_
  refine q_cSb (C := ¬ p1 < (0 : Int32) ∧ ¬ (11 : Int32) < p1) (d' := 0) [.int p1, .int 0, .int 11] [] dX11_isPlace_4 ok_X11_within mk_RX11_117 rfl (Nat.le_of_ble_eq_true rfl) (by first | decide | omega) (fun Φ h9 => c_X11_within (σ := σ) Φ h9) (fun c1 => ?_) (fun c1 => ?_)
  · have h := h.1 c1
    exact q_iret .boolean rfl rfl dX11_isPlace_7 h
  · have h := h.2 c1
    exact q_iret .boolean rfl rfl dX11_isPlace_7 h

theorem c_X11_isPlace {g : vt_GT} {σ : vt_Sg} {p1 : Int32}  (Φ : Int32 → vt_Sg → Prop) (h : ((¬ p1 < 0 ∧ ¬ 11 < p1) → Φ 1 σ) ∧ (¬ (¬ p1 < 0 ∧ ¬ 11 < p1) → Φ 0 σ)) : vt_Mi g 1 D_X11_isPlace [.int p1] σ Φ :=
  mI ok_X11_isPlace.1 rfl rfl rfl (s_X11_isPlace_0 g σ _ p1 (by
    have h1 := h.1; have h2 := h.2; clear h
    repeat' (first | refine And.intro (fun c => ?_) (fun c => ?_) | (apply And.intro; assumption))
    all_goals (first | exact ⟨_, rfl, h1 (by clear h1 h2; simp_all)⟩ | exact ⟨_, rfl, h2 (by clear h1 h2; simp_all)⟩)))

theorem s_X11_isFeet_0 (g : vt_GT) (σ : vt_Sg) (P : Option Value → vt_Sg → Prop) (p1 : Int32)
  (h : ((¬ p1 < (10 : Int32) ∧ ¬ (999 : Int32) < p1) → P (some (.int 1)) σ) ∧ (¬ (¬ p1 < (10 : Int32) ∧ ¬ (999 : Int32) < p1) → P (some (.int 0)) σ)) :
  TT g (vt_R 1) 0 0 D_X11_isFeet none 0 [some (.int p1)] [] σ P := by
  refine q_iload_n dX11_isFeet_0 rfl ?_
  refine q_bipush (v := 10) dX11_isFeet_1 (by decide) ?_
  refine q_sipush (v := 999) dX11_isFeet_3 (by decide) ?_
  refine q_cSb (C := ¬ p1 < (10 : Int32) ∧ ¬ (999 : Int32) < p1) (d' := 0) [.int p1, .int 10, .int 999] [] dX11_isFeet_6 ok_X11_within mk_RX11_117 rfl (Nat.le_of_ble_eq_true rfl) (by first | decide | omega) (fun Φ h9 => c_X11_within (σ := σ) Φ h9) (fun c1 => ?_) (fun c1 => ?_)
  · have h := h.1 c1
    exact q_iret .boolean rfl rfl dX11_isFeet_9 h
  · have h := h.2 c1
    exact q_iret .boolean rfl rfl dX11_isFeet_9 h

theorem c_X11_isFeet {g : vt_GT} {σ : vt_Sg} {p1 : Int32}  (Φ : Int32 → vt_Sg → Prop) (h : ((¬ p1 < 10 ∧ ¬ 999 < p1) → Φ 1 σ) ∧ (¬ (¬ p1 < 10 ∧ ¬ 999 < p1) → Φ 0 σ)) : vt_Mi g 1 D_X11_isFeet [.int p1] σ Φ :=
  mI ok_X11_isFeet.1 rfl rfl rfl (s_X11_isFeet_0 g σ _ p1 (by
    have h1 := h.1; have h2 := h.2; clear h
    repeat' (first | refine And.intro (fun c => ?_) (fun c => ?_) | (apply And.intro; assumption))
    all_goals (first | exact ⟨_, rfl, h1 (by clear h1 h2; simp_all)⟩ | exact ⟨_, rfl, h2 (by clear h1 h2; simp_all)⟩)))

theorem s_X11_isPeople_0 (g : vt_GT) (σ : vt_Sg) (P : Option Value → vt_Sg → Prop) (p1 : Int32)
  (h : ((¬ p1 < (0 : Int32) ∧ ¬ (9999 : Int32) < p1) → P (some (.int 1)) σ) ∧ (¬ (¬ p1 < (0 : Int32) ∧ ¬ (9999 : Int32) < p1) → P (some (.int 0)) σ)) :
  TT g (vt_R 1) 0 0 D_X11_isPeople none 0 [some (.int p1)] [] σ P := by
  refine q_iload_n dX11_isPeople_0 rfl ?_
  refine q_iconst (v := 0) dX11_isPeople_1 (by decide) ?_
  refine q_sipush (v := 9999) dX11_isPeople_2 (by decide) ?_
  refine q_cSb (C := ¬ p1 < (0 : Int32) ∧ ¬ (9999 : Int32) < p1) (d' := 0) [.int p1, .int 0, .int 9999] [] dX11_isPeople_5 ok_X11_within mk_RX11_117 rfl (Nat.le_of_ble_eq_true rfl) (by first | decide | omega) (fun Φ h9 => c_X11_within (σ := σ) Φ h9) (fun c1 => ?_) (fun c1 => ?_)
  · have h := h.1 c1
    exact q_iret .boolean rfl rfl dX11_isPeople_8 h
  · have h := h.2 c1
    exact q_iret .boolean rfl rfl dX11_isPeople_8 h

theorem c_X11_isPeople {g : vt_GT} {σ : vt_Sg} {p1 : Int32}  (Φ : Int32 → vt_Sg → Prop) (h : ((¬ p1 < 0 ∧ ¬ 9999 < p1) → Φ 1 σ) ∧ (¬ (¬ p1 < 0 ∧ ¬ 9999 < p1) → Φ 0 σ)) : vt_Mi g 1 D_X11_isPeople [.int p1] σ Φ :=
  mI ok_X11_isPeople.1 rfl rfl rfl (s_X11_isPeople_0 g σ _ p1 (by
    have h1 := h.1; have h2 := h.2; clear h
    repeat' (first | refine And.intro (fun c => ?_) (fun c => ?_) | (apply And.intro; assumption))
    all_goals (first | exact ⟨_, rfl, h1 (by clear h1 h2; simp_all)⟩ | exact ⟨_, rfl, h2 (by clear h1 h2; simp_all)⟩)))

theorem s_X11_isTries_0 (g : vt_GT) (σ : vt_Sg) (P : Option Value → vt_Sg → Prop) (p1 : Int32)
  (h : ((¬ p1 < (1 : Int32) ∧ ¬ (50000 : Int32) < p1) → P (some (.int 1)) σ) ∧ (¬ (¬ p1 < (1 : Int32) ∧ ¬ (50000 : Int32) < p1) → P (some (.int 0)) σ)) :
  TT g (vt_R 1) 0 0 D_X11_isTries none 0 [some (.int p1)] [] σ P := by
  refine q_iload_n dX11_isTries_0 rfl ?_
  refine q_iconst (v := 1) dX11_isTries_1 (by decide) ?_
  refine q_ldcw dX11_isTries_2 ct_RX11_284 ?_
  refine q_cSb (C := ¬ p1 < (1 : Int32) ∧ ¬ (50000 : Int32) < p1) (d' := 0) [.int p1, .int 1, .int 50000] [] dX11_isTries_5 ok_X11_within mk_RX11_117 rfl (Nat.le_of_ble_eq_true rfl) (by first | decide | omega) (fun Φ h9 => c_X11_within (σ := σ) Φ h9) (fun c1 => ?_) (fun c1 => ?_)
  · have h := h.1 c1
    exact q_iret .boolean rfl rfl dX11_isTries_8 h
  · have h := h.2 c1
    exact q_iret .boolean rfl rfl dX11_isTries_8 h

theorem c_X11_isTries {g : vt_GT} {σ : vt_Sg} {p1 : Int32}  (Φ : Int32 → vt_Sg → Prop) (h : ((¬ p1 < 1 ∧ ¬ 50000 < p1) → Φ 1 σ) ∧ (¬ (¬ p1 < 1 ∧ ¬ 50000 < p1) → Φ 0 σ)) : vt_Mi g 1 D_X11_isTries [.int p1] σ Φ :=
  mI ok_X11_isTries.1 rfl rfl rfl (s_X11_isTries_0 g σ _ p1 (by
    have h1 := h.1; have h2 := h.2; clear h
    repeat' (first | refine And.intro (fun c => ?_) (fun c => ?_) | (apply And.intro; assumption))
    all_goals (first | exact ⟨_, rfl, h1 (by clear h1 h2; simp_all)⟩ | exact ⟨_, rfl, h2 (by clear h1 h2; simp_all)⟩)))

theorem s_X11_isMonth_0 (g : vt_GT) (σ : vt_Sg) (P : Option Value → vt_Sg → Prop) (p1 : Int32)
  (h : ((¬ p1 < (0 : Int32) ∧ ¬ (σ 1 9) < p1) → P (some (.int 1)) σ) ∧ (¬ (¬ p1 < (0 : Int32) ∧ ¬ (σ 1 9) < p1) → P (some (.int 0)) σ)) :
  TT g (vt_R 1) 0 0 D_X11_isMonth none 0 [some (.ref (g.2.1 0)), some (.int p1)] [] σ P := by
  refine q_iload_n dX11_isMonth_0 rfl ?_
  refine q_iconst (v := 0) dX11_isMonth_1 (by decide) ?_
  refine q_aload_n dX11_isMonth_2 rfl ?_
  refine q_getR dX11_isMonth_3 fF_RX11_10 fl_0_0 ?_
  refine q_getX (x := (σ 1 9)) dX11_isMonth_6 fF_RX11_137 fl_1_9 rfl ?_
  refine q_cSb (C := ¬ p1 < (0 : Int32) ∧ ¬ (σ 1 9) < p1) (d' := 0) [.int p1, .int 0, .int (σ 1 9)] [] dX11_isMonth_9 ok_X11_within mk_RX11_117 rfl (Nat.le_of_ble_eq_true rfl) (by first | decide | omega) (fun Φ h9 => c_X11_within (σ := σ) Φ h9) (fun c1 => ?_) (fun c1 => ?_)
  · have h := h.1 c1
    exact q_iret .boolean rfl rfl dX11_isMonth_12 h
  · have h := h.2 c1
    exact q_iret .boolean rfl rfl dX11_isMonth_12 h

theorem c_X11_isMonth {g : vt_GT} {σ : vt_Sg} {p1 : Int32}  (Φ : Int32 → vt_Sg → Prop) (h : ((¬ p1 < 0 ∧ ¬ (σ 1 9) < p1) → Φ 1 σ) ∧ (¬ (¬ p1 < 0 ∧ ¬ (σ 1 9) < p1) → Φ 0 σ)) : vt_Mi g 1 D_X11_isMonth [.ref (g.2.1 0), .int p1] σ Φ :=
  mI ok_X11_isMonth.1 rfl rfl rfl (s_X11_isMonth_0 g σ _ p1 (by
    have h1 := h.1; have h2 := h.2; clear h
    repeat' (first | refine And.intro (fun c => ?_) (fun c => ?_) | (apply And.intro; assumption))
    all_goals (first | exact ⟨_, rfl, h1 (by clear h1 h2; simp_all)⟩ | exact ⟨_, rfl, h2 (by clear h1 h2; simp_all)⟩)))

theorem s_X3_has_0 (g : vt_GT) (σ : vt_Sg) (P : Option Value → vt_Sg → Prop) (p1 : Int32)
  (h : (p1 < 0 → P (some (.int 0)) σ) ∧ (¬ p1 < 0 → ((σ 4 2) ≤ p1 → P (some (.int 0)) σ) ∧ (¬ (σ 4 2) ≤ p1 → P (some (.int 1)) σ))) :
  TT g (vt_R 0) 0 0 D_X3_has none 0 [some (.ref (g.2.1 4)), some (.int p1)] [] σ P := by
  refine q_iload_n dX3_has_0 rfl ?_
  refine q_if_lt (tgt := 16) dX3_has_1 (by decide) (fun c1 => ?_) (fun c1 => ?_)
  · have h := h.1 c1
    refine q_iconst (v := 0) dX3_has_16 (by decide) ?_
    exact q_iret .boolean rfl rfl dX3_has_17 h
  · have h := h.2 c1
    refine q_iload_n dX3_has_4 rfl ?_
    refine q_aload_n dX3_has_5 rfl ?_
    refine q_getX (x := (σ 4 2)) dX3_has_6 fF_RX3_18 fl_4_2 rfl ?_
    refine q_icmp_ge (tgt := 16) dX3_has_9 (by decide) (fun c2 => ?_) (fun c2 => ?_)
    · have h := h.1 c2
      refine q_iconst (v := 0) dX3_has_16 (by decide) ?_
      exact q_iret .boolean rfl rfl dX3_has_17 h
    · have h := h.2 c2
      refine q_iconst (v := 1) dX3_has_12 (by decide) ?_
      refine q_goto (tgt := 17) dX3_has_13 (by decide) ?_
      exact q_iret .boolean rfl rfl dX3_has_17 h

theorem c_X3_has {g : vt_GT} {σ : vt_Sg} {p1 : Int32}  (Φ : Int32 → vt_Sg → Prop) (h : ((¬ p1 < 0 ∧ ¬ (σ 4 2) ≤ p1) → Φ 1 σ) ∧ (¬ (¬ p1 < 0 ∧ ¬ (σ 4 2) ≤ p1) → Φ 0 σ)) : vt_Mi g 0 D_X3_has [.ref (g.2.1 4), .int p1] σ Φ :=
  mI ok_X3_has.1 rfl rfl rfl (s_X3_has_0 g σ _ p1 (by
    have h1 := h.1; have h2 := h.2; clear h
    repeat' (first | refine And.intro (fun c => ?_) (fun c => ?_) | (apply And.intro; assumption))
    all_goals (first | exact ⟨_, rfl, h1 (by clear h1 h2; simp_all)⟩ | exact ⟨_, rfl, h2 (by clear h1 h2; simp_all)⟩)))

theorem s_X10_has_0 (g : vt_GT) (σ : vt_Sg) (P : Option Value → vt_Sg → Prop) (p1 : Int32)
  (h : (p1 < 0 → P (some (.int 0)) σ) ∧ (¬ p1 < 0 → ((σ 7 7) ≤ p1 → P (some (.int 0)) σ) ∧ (¬ (σ 7 7) ≤ p1 → P (some (.int 1)) σ))) :
  TT g (vt_R 0) 0 0 D_X10_has none 0 [some (.ref (g.2.1 7)), some (.int p1)] [] σ P := by
  refine q_iload_n dX10_has_0 rfl ?_
  refine q_if_lt (tgt := 16) dX10_has_1 (by decide) (fun c1 => ?_) (fun c1 => ?_)
  · have h := h.1 c1
    refine q_iconst (v := 0) dX10_has_16 (by decide) ?_
    exact q_iret .boolean rfl rfl dX10_has_17 h
  · have h := h.2 c1
    refine q_iload_n dX10_has_4 rfl ?_
    refine q_aload_n dX10_has_5 rfl ?_
    refine q_getX (x := (σ 7 7)) dX10_has_6 fF_RX10_33 fl_7_7 rfl ?_
    refine q_icmp_ge (tgt := 16) dX10_has_9 (by decide) (fun c2 => ?_) (fun c2 => ?_)
    · have h := h.1 c2
      refine q_iconst (v := 0) dX10_has_16 (by decide) ?_
      exact q_iret .boolean rfl rfl dX10_has_17 h
    · have h := h.2 c2
      refine q_iconst (v := 1) dX10_has_12 (by decide) ?_
      refine q_goto (tgt := 17) dX10_has_13 (by decide) ?_
      exact q_iret .boolean rfl rfl dX10_has_17 h

theorem c_X10_has {g : vt_GT} {σ : vt_Sg} {p1 : Int32}  (Φ : Int32 → vt_Sg → Prop) (h : ((¬ p1 < 0 ∧ ¬ (σ 7 7) ≤ p1) → Φ 1 σ) ∧ (¬ (¬ p1 < 0 ∧ ¬ (σ 7 7) ≤ p1) → Φ 0 σ)) : vt_Mi g 0 D_X10_has [.ref (g.2.1 7), .int p1] σ Φ :=
  mI ok_X10_has.1 rfl rfl rfl (s_X10_has_0 g σ _ p1 (by
    have h1 := h.1; have h2 := h.2; clear h
    repeat' (first | refine And.intro (fun c => ?_) (fun c => ?_) | (apply And.intro; assumption))
    all_goals (first | exact ⟨_, rfl, h1 (by clear h1 h2; simp_all)⟩ | exact ⟨_, rfl, h2 (by clear h1 h2; simp_all)⟩)))

theorem s_X5_has_0 (g : vt_GT) (σ : vt_Sg) (P : Option Value → vt_Sg → Prop) (p1 : Int32)
  (h : (p1 < 0 → P (some (.int 0)) σ) ∧ (¬ p1 < 0 → ((σ 19 5) ≤ p1 → P (some (.int 0)) σ) ∧ (¬ (σ 19 5) ≤ p1 → P (some (.int 1)) σ))) :
  TT g (vt_R 0) 0 0 D_X5_has none 0 [some (.ref (g.2.1 19)), some (.int p1)] [] σ P := by
  refine q_iload_n dX5_has_0 rfl ?_
  refine q_if_lt (tgt := 16) dX5_has_1 (by decide) (fun c1 => ?_) (fun c1 => ?_)
  · have h := h.1 c1
    refine q_iconst (v := 0) dX5_has_16 (by decide) ?_
    exact q_iret .boolean rfl rfl dX5_has_17 h
  · have h := h.2 c1
    refine q_iload_n dX5_has_4 rfl ?_
    refine q_aload_n dX5_has_5 rfl ?_
    refine q_getX (x := (σ 19 5)) dX5_has_6 fF_RX5_27 fl_19_5 rfl ?_
    refine q_icmp_ge (tgt := 16) dX5_has_9 (by decide) (fun c2 => ?_) (fun c2 => ?_)
    · have h := h.1 c2
      refine q_iconst (v := 0) dX5_has_16 (by decide) ?_
      exact q_iret .boolean rfl rfl dX5_has_17 h
    · have h := h.2 c2
      refine q_iconst (v := 1) dX5_has_12 (by decide) ?_
      refine q_goto (tgt := 17) dX5_has_13 (by decide) ?_
      exact q_iret .boolean rfl rfl dX5_has_17 h

theorem c_X5_has {g : vt_GT} {σ : vt_Sg} {p1 : Int32}  (Φ : Int32 → vt_Sg → Prop) (h : ((¬ p1 < 0 ∧ ¬ (σ 19 5) ≤ p1) → Φ 1 σ) ∧ (¬ (¬ p1 < 0 ∧ ¬ (σ 19 5) ≤ p1) → Φ 0 σ)) : vt_Mi g 0 D_X5_has [.ref (g.2.1 19), .int p1] σ Φ :=
  mI ok_X5_has.1 rfl rfl rfl (s_X5_has_0 g σ _ p1 (by
    have h1 := h.1; have h2 := h.2; clear h
    repeat' (first | refine And.intro (fun c => ?_) (fun c => ?_) | (apply And.intro; assumption))
    all_goals (first | exact ⟨_, rfl, h1 (by clear h1 h2; simp_all)⟩ | exact ⟨_, rfl, h2 (by clear h1 h2; simp_all)⟩)))

theorem s_X9_isSheet_0 (g : vt_GT) (σ : vt_Sg) (P : Option Value → vt_Sg → Prop) (p1 : Int32)
  (h : (p1 = 0 → P (some (.int 1)) σ) ∧ (¬ p1 = 0 → (¬ p1 = 1 → P (some (.int 0)) σ) ∧ (p1 = 1 → P (some (.int 1)) σ))) :
  TT g (vt_R 0) 0 0 D_X9_isSheet none 0 [some (.int p1)] [] σ P := by
  refine q_iload_n dX9_isSheet_0 rfl ?_
  refine q_if_eq (tgt := 9) dX9_isSheet_1 (by decide) (fun c1 => ?_) (fun c1 => ?_)
  · have h := h.1 c1
    refine q_iconst (v := 1) dX9_isSheet_9 (by decide) ?_
    refine q_goto (tgt := 14) dX9_isSheet_10 (by decide) ?_
    exact q_iret .boolean rfl rfl dX9_isSheet_14 h
  · have h := h.2 c1
    refine q_iload_n dX9_isSheet_4 rfl ?_
    refine q_iconst (v := 1) dX9_isSheet_5 (by decide) ?_
    refine q_icmp_ne (tgt := 13) dX9_isSheet_6 (by decide) (fun c2 => ?_) (fun c2 => ?_)
    · have h := h.1 c2
      refine q_iconst (v := 0) dX9_isSheet_13 (by decide) ?_
      exact q_iret .boolean rfl rfl dX9_isSheet_14 h
    · have h := h.2 c2
      refine q_iconst (v := 1) dX9_isSheet_9 (by decide) ?_
      refine q_goto (tgt := 14) dX9_isSheet_10 (by decide) ?_
      exact q_iret .boolean rfl rfl dX9_isSheet_14 h

theorem c_X9_isSheet {g : vt_GT} {σ : vt_Sg} {p1 : Int32}  (Φ : Int32 → vt_Sg → Prop) (h : ((p1 = 0 ∨ p1 = 1) → Φ 1 σ) ∧ (¬ (p1 = 0 ∨ p1 = 1) → Φ 0 σ)) : vt_Mi g 0 D_X9_isSheet [.int p1] σ Φ :=
  mI ok_X9_isSheet.1 rfl rfl rfl (s_X9_isSheet_0 g σ _ p1 (by
    have h1 := h.1; have h2 := h.2; clear h
    repeat' (first | refine And.intro (fun c => ?_) (fun c => ?_) | (apply And.intro; assumption))
    all_goals (first | exact ⟨_, rfl, h1 (by clear h1 h2; simp_all)⟩ | exact ⟨_, rfl, h2 (by clear h1 h2; simp_all)⟩)))

theorem s_X9_isMissing_0 (g : vt_GT) (σ : vt_Sg) (P : Option Value → vt_Sg → Prop) (p1 : Int32)
  (h : vp_in p1 2 ∧ ((¬ (σ 115 p1.toNatClampNeg) = (-1) → P (some (.int 0)) σ) ∧ ((σ 115 p1.toNatClampNeg) = (-1) → P (some (.int 1)) σ))) :
  TT g (vt_R 0) 0 0 D_X9_isMissing none 0 [some (.ref (g.2.1 111)), some (.int p1)] [] σ P := by
  refine q_aload_n dX9_isMissing_0 rfl ?_
  refine q_getR dX9_isMissing_1 fF_RX9_14 fl_111_1 ?_
  refine q_iload_n dX9_isMissing_4 rfl ?_
  obtain ⟨hi1, h⟩ := h
  refine q_ialdX (v := (σ 115 p1.toNatClampNeg)) dX9_isMissing_5 ar_115 hi1 rfl ?_
  refine q_iconst (v := (-1)) dX9_isMissing_6 (by decide) ?_
  refine q_icmp_ne (tgt := 14) dX9_isMissing_7 (by decide) (fun c2 => ?_) (fun c2 => ?_)
  · have h := h.1 c2
    refine q_iconst (v := 0) dX9_isMissing_14 (by decide) ?_
    exact q_iret .boolean rfl rfl dX9_isMissing_15 h
  · have h := h.2 c2
    refine q_iconst (v := 1) dX9_isMissing_10 (by decide) ?_
    refine q_goto (tgt := 15) dX9_isMissing_11 (by decide) ?_
    exact q_iret .boolean rfl rfl dX9_isMissing_15 h

theorem c_X9_isMissing {g : vt_GT} {σ : vt_Sg} {p1 : Int32} (i0 : vp_in p1 2) (Φ : Int32 → vt_Sg → Prop) (h : ((σ 115 p1.toNatClampNeg = (-1)) → Φ 1 σ) ∧ (¬ (σ 115 p1.toNatClampNeg = (-1)) → Φ 0 σ)) : vt_Mi g 0 D_X9_isMissing [.ref (g.2.1 111), .int p1] σ Φ :=
  mI ok_X9_isMissing.1 rfl rfl rfl (s_X9_isMissing_0 g σ _ p1 (by
    have h1 := h.1; have h2 := h.2; clear h
    repeat' (first | refine And.intro (fun c => ?_) (fun c => ?_) | (apply And.intro; assumption))
    all_goals (first | exact ⟨_, rfl, h1 (by clear h1 h2; simp_all)⟩ | exact ⟨_, rfl, h2 (by clear h1 h2; simp_all)⟩)))

theorem s_X9_reaches_0 (g : vt_GT) (σ : vt_Sg) (P : Option Value → vt_Sg → Prop) (p1 : Int32) (p2 : Int32) (p3 : Int32)
  (h : (p2 < 0 → P (some (.int 0)) σ) ∧ (¬ p2 < 0 → (p3 < 0 → P (some (.int 0)) σ) ∧ (¬ p3 < 0 → vp_in p1 2 ∧ (((σ 115 p1.toNatClampNeg) < p2 → P (some (.int 0)) σ) ∧ (¬ (σ 115 p1.toNatClampNeg) < p2 → (((σ 115 p1.toNatClampNeg) - p2) < p3 → P (some (.int 0)) σ) ∧ (¬ ((σ 115 p1.toNatClampNeg) - p2) < p3 → P (some (.int 1)) σ)))))) :
  TT g (vt_R 0) 0 0 D_X9_reaches none 0 [some (.ref (g.2.1 111)), some (.int p1), some (.int p2), some (.int p3)] [] σ P := by
  refine q_iload_n dX9_reaches_0 rfl ?_
  refine q_if_lt (tgt := 34) dX9_reaches_1 (by decide) (fun c1 => ?_) (fun c1 => ?_)
  · have h := h.1 c1
    refine q_iconst (v := 0) dX9_reaches_34 (by decide) ?_
    exact q_iret .boolean rfl rfl dX9_reaches_35 h
  · have h := h.2 c1
    refine q_iload_n dX9_reaches_4 rfl ?_
    refine q_if_lt (tgt := 34) dX9_reaches_5 (by decide) (fun c2 => ?_) (fun c2 => ?_)
    · have h := h.1 c2
      refine q_iconst (v := 0) dX9_reaches_34 (by decide) ?_
      exact q_iret .boolean rfl rfl dX9_reaches_35 h
    · have h := h.2 c2
      refine q_iload_n dX9_reaches_8 rfl ?_
      refine q_aload_n dX9_reaches_9 rfl ?_
      refine q_getR dX9_reaches_10 fF_RX9_14 fl_111_1 ?_
      refine q_iload_n dX9_reaches_13 rfl ?_
      obtain ⟨hi3, h⟩ := h
      refine q_ialdX (v := (σ 115 p1.toNatClampNeg)) dX9_reaches_14 ar_115 hi3 rfl ?_
      refine q_icmp_gt (tgt := 34) dX9_reaches_15 (by decide) (fun c4 => ?_) (fun c4 => ?_)
      · have h := h.1 c4
        refine q_iconst (v := 0) dX9_reaches_34 (by decide) ?_
        exact q_iret .boolean rfl rfl dX9_reaches_35 h
      · have h := h.2 c4
        refine q_iload_n dX9_reaches_18 rfl ?_
        refine q_aload_n dX9_reaches_19 rfl ?_
        refine q_getR dX9_reaches_20 fF_RX9_14 fl_111_1 ?_
        refine q_iload_n dX9_reaches_23 rfl ?_
        refine q_ialdX (v := (σ 115 p1.toNatClampNeg)) dX9_reaches_24 ar_115 hi3 rfl ?_
        refine q_iload_n dX9_reaches_25 rfl ?_
        refine q_isub dX9_reaches_26 ?_
        refine q_icmp_gt (tgt := 34) dX9_reaches_27 (by decide) (fun c5 => ?_) (fun c5 => ?_)
        · have h := h.1 c5
          refine q_iconst (v := 0) dX9_reaches_34 (by decide) ?_
          exact q_iret .boolean rfl rfl dX9_reaches_35 h
        · have h := h.2 c5
          refine q_iconst (v := 1) dX9_reaches_30 (by decide) ?_
          refine q_goto (tgt := 35) dX9_reaches_31 (by decide) ?_
          exact q_iret .boolean rfl rfl dX9_reaches_35 h

theorem c_X9_reaches {g : vt_GT} {σ : vt_Sg} {p1 p2 p3 : Int32} (i0 : vp_in p1 2) (Φ : Int32 → vt_Sg → Prop) (h : ((¬ p2 < 0 ∧ ¬ p3 < 0 ∧ ¬ (σ 115 p1.toNatClampNeg) < p2 ∧ ¬ (σ 115 p1.toNatClampNeg) - p2 < p3) → Φ 1 σ) ∧ (¬ (¬ p2 < 0 ∧ ¬ p3 < 0 ∧ ¬ (σ 115 p1.toNatClampNeg) < p2 ∧ ¬ (σ 115 p1.toNatClampNeg) - p2 < p3) → Φ 0 σ)) : vt_Mi g 0 D_X9_reaches [.ref (g.2.1 111), .int p1, .int p2, .int p3] σ Φ :=
  mI ok_X9_reaches.1 rfl rfl rfl (s_X9_reaches_0 g σ _ p1 p2 p3 (by
    have h1 := h.1; have h2 := h.2; clear h
    repeat' (first | refine And.intro (fun c => ?_) (fun c => ?_) | (apply And.intro; assumption))
    all_goals (first | exact ⟨_, rfl, h1 (by clear h1 h2; simp_all)⟩ | exact ⟨_, rfl, h2 (by clear h1 h2; simp_all)⟩)))

theorem s_X10_rivals_0 (g : vt_GT) (σ : vt_Sg) (P : Option Value → vt_Sg → Prop) (p1 : Int32) (p2 : Int32) (p3 : Int32)
  (h : vp_in p1 12 ∧ (vp_in p2 12 ∧ ((¬ (σ 9 p1.toNatClampNeg) = (σ 9 p2.toNatClampNeg) → P (some (.int 0)) σ) ∧ ((σ 9 p1.toNatClampNeg) = (σ 9 p2.toNatClampNeg) → ((if (σ 12 p1.toNatClampNeg) < (σ 12 p2.toNatClampNeg) then (σ 12 p2.toNatClampNeg) else (σ 12 p1.toNatClampNeg)) < p3 → P (some (.int 0)) σ) ∧ (¬ (if (σ 12 p1.toNatClampNeg) < (σ 12 p2.toNatClampNeg) then (σ 12 p2.toNatClampNeg) else (σ 12 p1.toNatClampNeg)) < p3 → P (some (.int 1)) σ))))) :
  TT g (vt_R 1) 0 0 D_X10_rivals none 0 [some (.ref (g.2.1 7)), some (.int p1), some (.int p2), some (.int p3)] [] σ P := by
  refine q_aload_n dX10_rivals_0 rfl ?_
  refine q_getR dX10_rivals_1 fF_RX10_15 fl_7_1 ?_
  refine q_iload_n dX10_rivals_4 rfl ?_
  obtain ⟨hi1, h⟩ := h
  refine q_ialdX (v := (σ 9 p1.toNatClampNeg)) dX10_rivals_5 ar_9 hi1 rfl ?_
  refine q_aload_n dX10_rivals_6 rfl ?_
  refine q_getR dX10_rivals_7 fF_RX10_15 fl_7_1 ?_
  refine q_iload_n dX10_rivals_10 rfl ?_
  obtain ⟨hi2, h⟩ := h
  refine q_ialdX (v := (σ 9 p2.toNatClampNeg)) dX10_rivals_11 ar_9 hi2 rfl ?_
  refine q_icmp_ne (tgt := 38) dX10_rivals_12 (by decide) (fun c3 => ?_) (fun c3 => ?_)
  · have h := h.1 c3
    refine q_iconst (v := 0) dX10_rivals_38 (by decide) ?_
    exact q_iret .boolean rfl rfl dX10_rivals_39 h
  · have h := h.2 c3
    refine q_iload_n dX10_rivals_15 rfl ?_
    refine q_aload_n dX10_rivals_16 rfl ?_
    refine q_getR dX10_rivals_17 fF_RX10_24 fl_7_4 ?_
    refine q_iload_n dX10_rivals_20 rfl ?_
    refine q_ialdX (v := (σ 12 p1.toNatClampNeg)) dX10_rivals_21 ar_12 hi1 rfl ?_
    refine q_aload_n dX10_rivals_22 rfl ?_
    refine q_getR dX10_rivals_23 fF_RX10_24 fl_7_4 ?_
    refine q_iload_n dX10_rivals_26 rfl ?_
    refine q_ialdX (v := (σ 12 p2.toNatClampNeg)) dX10_rivals_27 ar_12 hi2 rfl ?_
    refine q_max dX10_rivals_28 mk_RX10_37 sta_max ini_math cod_max (Nat.le_of_ble_eq_true rfl) (by first | decide | omega) ?_
    refine q_icmp_gt (tgt := 38) dX10_rivals_31 (by decide) (fun c4 => ?_) (fun c4 => ?_)
    · have h := h.1 c4
      refine q_iconst (v := 0) dX10_rivals_38 (by decide) ?_
      exact q_iret .boolean rfl rfl dX10_rivals_39 h
    · have h := h.2 c4
      refine q_iconst (v := 1) dX10_rivals_34 (by decide) ?_
      refine q_goto (tgt := 39) dX10_rivals_35 (by decide) ?_
      exact q_iret .boolean rfl rfl dX10_rivals_39 h

theorem c_X10_rivals {g : vt_GT} {σ : vt_Sg} {p1 p2 p3 : Int32} (i0 : vp_in p1 12) (i1 : vp_in p2 12) (Φ : Int32 → vt_Sg → Prop) (h : ((σ 9 p1.toNatClampNeg = σ 9 p2.toNatClampNeg ∧ ¬ (if (σ 12 p1.toNatClampNeg) < (σ 12 p2.toNatClampNeg) then (σ 12 p2.toNatClampNeg) else (σ 12 p1.toNatClampNeg)) < p3) → Φ 1 σ) ∧ (¬ (σ 9 p1.toNatClampNeg = σ 9 p2.toNatClampNeg ∧ ¬ (if (σ 12 p1.toNatClampNeg) < (σ 12 p2.toNatClampNeg) then (σ 12 p2.toNatClampNeg) else (σ 12 p1.toNatClampNeg)) < p3) → Φ 0 σ)) : vt_Mi g 1 D_X10_rivals [.ref (g.2.1 7), .int p1, .int p2, .int p3] σ Φ :=
  mI ok_X10_rivals.1 rfl rfl rfl (s_X10_rivals_0 g σ _ p1 p2 p3 (by
    have h1 := h.1; have h2 := h.2; clear h
    repeat' (first | refine And.intro (fun c => ?_) (fun c => ?_) | (apply And.intro; assumption))
    all_goals (first | exact ⟨_, rfl, h1 (by clear h1 h2; simp_all)⟩ | exact ⟨_, rfl, h2 (by clear h1 h2; simp_all)⟩)))

theorem s_X2_others_0 (g : vt_GT) (σ : vt_Sg) (P : Option Value → vt_Sg → Prop) (p1 : Int32)
  (h : vp_in p1 12 ∧ ((¬ (σ 117 p1.toNatClampNeg) = (-1000000005) → P (some (.int ((σ 116 2) - 1))) σ) ∧ ((σ 117 p1.toNatClampNeg) = (-1000000005) → P (some (.int (σ 116 2))) σ))) :
  TT g (vt_R 0) 0 0 D_X2_others none 0 [some (.ref (g.2.1 116)), some (.int p1)] [] σ P := by
  refine q_aload_n dX2_others_0 rfl ?_
  refine q_getR dX2_others_1 fF_RX2_9 fl_116_3 ?_
  refine q_iload_n dX2_others_4 rfl ?_
  obtain ⟨hi1, h⟩ := h
  refine q_ialdX (v := (σ 117 p1.toNatClampNeg)) dX2_others_5 ar_117 hi1 rfl ?_
  refine q_ldc dX2_others_6 ct_RX2_32 ?_
  refine q_icmp_ne (tgt := 18) dX2_others_8 (by decide) (fun c2 => ?_) (fun c2 => ?_)
  · have h := h.1 c2
    refine q_aload_n dX2_others_18 rfl ?_
    refine q_getX (x := (σ 116 2)) dX2_others_19 fF_RX2_61 fl_116_2 rfl ?_
    refine q_iconst (v := 1) dX2_others_22 (by decide) ?_
    refine q_isub dX2_others_23 ?_
    exact q_iret .int rfl rfl dX2_others_24 h
  · have h := h.2 c2
    refine q_aload_n dX2_others_11 rfl ?_
    refine q_getX (x := (σ 116 2)) dX2_others_12 fF_RX2_61 fl_116_2 rfl ?_
    refine q_goto (tgt := 24) dX2_others_15 (by decide) ?_
    exact q_iret .int rfl rfl dX2_others_24 h

theorem c_X2_others {g : vt_GT} {σ : vt_Sg} {p1 : Int32} (i0 : vp_in p1 12) (Φ : Int32 → vt_Sg → Prop) (h : Φ (if σ 117 p1.toNatClampNeg = (-1000000005) then σ 116 2 else (σ 116 2) - 1) σ) : vt_Mi g 0 D_X2_others [.ref (g.2.1 116), .int p1] σ Φ :=
  mI ok_X2_others.1 rfl rfl rfl (s_X2_others_0 g σ _ p1 (by
    repeat' (first | refine And.intro (fun c => ?_) (fun c => ?_) | (apply And.intro; assumption))
    all_goals exact ⟨_, rfl, by simp_all⟩))

theorem s_X2_breaks_0 (g : vt_GT) (σ : vt_Sg) (P : Option Value → vt_Sg → Prop) (p1 : Int32) (p2 : Int32)
  (h : vp_in p1 12 ∧ (((σ 117 p1.toNatClampNeg) = (-1000000005) → P (some (.int 0)) σ) ∧ (¬ (σ 117 p1.toNatClampNeg) = (-1000000005) → vp_in p2 12 ∧ ((¬ (σ 117 p2.toNatClampNeg) = (-1000000005) → ((σ 9 p1.toNatClampNeg = σ 9 p2.toNatClampNeg ∧ ¬ (if (σ 12 p1.toNatClampNeg) < (σ 12 p2.toNatClampNeg) then (σ 12 p2.toNatClampNeg) else (σ 12 p1.toNatClampNeg)) < (if 0 ≤ ((σ 117 p1.toNatClampNeg) - (σ 117 p2.toNatClampNeg)) then ((σ 117 p1.toNatClampNeg) - (σ 117 p2.toNatClampNeg)) else 0 - ((σ 117 p1.toNatClampNeg) - (σ 117 p2.toNatClampNeg)))) → P (some (.int 1)) σ) ∧ (¬ (σ 9 p1.toNatClampNeg = σ 9 p2.toNatClampNeg ∧ ¬ (if (σ 12 p1.toNatClampNeg) < (σ 12 p2.toNatClampNeg) then (σ 12 p2.toNatClampNeg) else (σ 12 p1.toNatClampNeg)) < (if 0 ≤ ((σ 117 p1.toNatClampNeg) - (σ 117 p2.toNatClampNeg)) then ((σ 117 p1.toNatClampNeg) - (σ 117 p2.toNatClampNeg)) else 0 - ((σ 117 p1.toNatClampNeg) - (σ 117 p2.toNatClampNeg)))) → P (some (.int 0)) σ)) ∧ ((σ 117 p2.toNatClampNeg) = (-1000000005) → P (some (.int 0)) σ))))) :
  TT g (vt_R 2) 0 0 D_X2_breaks none 0 [some (.ref (g.2.1 116)), some (.int p1), some (.int p2), none] [] σ P := by
  refine q_aload_n dX2_breaks_0 rfl ?_
  refine q_getR dX2_breaks_1 fF_RX2_9 fl_116_3 ?_
  refine q_iload_n dX2_breaks_4 rfl ?_
  obtain ⟨hi1, h⟩ := h
  refine q_ialdX (v := (σ 117 p1.toNatClampNeg)) dX2_breaks_5 ar_117 hi1 rfl ?_
  refine q_ldc dX2_breaks_6 ct_RX2_32 ?_
  refine q_icmp_eq (tgt := 22) dX2_breaks_8 (by decide) (fun c2 => ?_) (fun c2 => ?_)
  · have h := h.1 c2
    refine q_iconst (v := 0) dX2_breaks_22 (by decide) ?_
    exact q_iret .boolean rfl rfl dX2_breaks_23 h
  · have h := h.2 c2
    refine q_aload_n dX2_breaks_11 rfl ?_
    refine q_getR dX2_breaks_12 fF_RX2_9 fl_116_3 ?_
    refine q_iload_n dX2_breaks_15 rfl ?_
    obtain ⟨hi3, h⟩ := h
    refine q_ialdX (v := (σ 117 p2.toNatClampNeg)) dX2_breaks_16 ar_117 hi3 rfl ?_
    refine q_ldc dX2_breaks_17 ct_RX2_32 ?_
    refine q_icmp_ne (tgt := 24) dX2_breaks_19 (by decide) (fun c4 => ?_) (fun c4 => ?_)
    · have h := h.1 c4
      refine q_aload_n dX2_breaks_24 rfl ?_
      refine q_getR dX2_breaks_25 fF_RX2_9 fl_116_3 ?_
      refine q_iload_n dX2_breaks_28 rfl ?_
      refine q_ialdX (v := (σ 117 p1.toNatClampNeg)) dX2_breaks_29 ar_117 hi1 rfl ?_
      refine q_aload_n dX2_breaks_30 rfl ?_
      refine q_getR dX2_breaks_31 fF_RX2_9 fl_116_3 ?_
      refine q_iload_n dX2_breaks_34 rfl ?_
      refine q_ialdX (v := (σ 117 p2.toNatClampNeg)) dX2_breaks_35 ar_117 hi3 rfl ?_
      refine q_isub dX2_breaks_36 ?_
      refine q_abs dX2_breaks_37 mk_RX2_101 sta_abs ini_math cod_abs (Nat.le_of_ble_eq_true rfl) (by first | decide | omega) ?_
      refine q_istore_n (L' := [some (.ref (g.2.1 116)), some (.int p1), some (.int p2), some (.int (if 0 ≤ ((σ 117 p1.toNatClampNeg) - (σ 117 p2.toNatClampNeg)) then ((σ 117 p1.toNatClampNeg) - (σ 117 p2.toNatClampNeg)) else 0 - ((σ 117 p1.toNatClampNeg) - (σ 117 p2.toNatClampNeg))))]) dX2_breaks_40 (by decide) rfl rfl ?_
      refine q_aload_n dX2_breaks_41 rfl ?_
      refine q_getR dX2_breaks_42 fF_RX2_24 fl_116_0 ?_
      refine q_getR dX2_breaks_45 fF_RX2_64 fl_1_3 ?_
      refine q_iload_n dX2_breaks_48 rfl ?_
      refine q_iload_n dX2_breaks_49 rfl ?_
      refine q_iload_n dX2_breaks_50 rfl ?_
      refine q_cVb (C := σ 9 p1.toNatClampNeg = σ 9 p2.toNatClampNeg ∧ ¬ (if (σ 12 p1.toNatClampNeg) < (σ 12 p2.toNatClampNeg) then (σ 12 p2.toNatClampNeg) else (σ 12 p1.toNatClampNeg)) < (if 0 ≤ ((σ 117 p1.toNatClampNeg) - (σ 117 p2.toNatClampNeg)) then ((σ 117 p1.toNatClampNeg) - (σ 117 p2.toNatClampNeg)) else 0 - ((σ 117 p1.toNatClampNeg) - (σ 117 p2.toNatClampNeg)))) (d' := 1) [.int p1, .int p2, .int (if 0 ≤ ((σ 117 p1.toNatClampNeg) - (σ 117 p2.toNatClampNeg)) then ((σ 117 p1.toNatClampNeg) - (σ 117 p2.toNatClampNeg)) else 0 - ((σ 117 p1.toNatClampNeg) - (σ 117 p2.toNatClampNeg)))] [] dX2_breaks_51 ok_X10_rivals mk_RX2_110 rc_7 rfl (Nat.le_of_ble_eq_true rfl) (by first | decide | omega) (fun Φ h9 => c_X10_rivals (σ := σ) hi1 hi3 Φ h9) (fun c5 => ?_) (fun c5 => ?_)
      · have h := h.1 c5
        exact q_iret .boolean rfl rfl dX2_breaks_54 h
      · have h := h.2 c5
        exact q_iret .boolean rfl rfl dX2_breaks_54 h
    · have h := h.2 c4
      refine q_iconst (v := 0) dX2_breaks_22 (by decide) ?_
      exact q_iret .boolean rfl rfl dX2_breaks_23 h

theorem c_X2_breaks {g : vt_GT} {σ : vt_Sg} {p1 p2 : Int32} (i0 : vp_in p1 12) (i1 : vp_in p2 12) (Φ : Int32 → vt_Sg → Prop) (h : ((¬ σ 117 p1.toNatClampNeg = (-1000000005) ∧ ¬ σ 117 p2.toNatClampNeg = (-1000000005) ∧ σ 9 p1.toNatClampNeg = σ 9 p2.toNatClampNeg ∧ ¬ (if (σ 12 p1.toNatClampNeg) < (σ 12 p2.toNatClampNeg) then (σ 12 p2.toNatClampNeg) else (σ 12 p1.toNatClampNeg)) < (if 0 ≤ ((σ 117 p1.toNatClampNeg) - (σ 117 p2.toNatClampNeg)) then ((σ 117 p1.toNatClampNeg) - (σ 117 p2.toNatClampNeg)) else 0 - ((σ 117 p1.toNatClampNeg) - (σ 117 p2.toNatClampNeg)))) → Φ 1 σ) ∧ (¬ (¬ σ 117 p1.toNatClampNeg = (-1000000005) ∧ ¬ σ 117 p2.toNatClampNeg = (-1000000005) ∧ σ 9 p1.toNatClampNeg = σ 9 p2.toNatClampNeg ∧ ¬ (if (σ 12 p1.toNatClampNeg) < (σ 12 p2.toNatClampNeg) then (σ 12 p2.toNatClampNeg) else (σ 12 p1.toNatClampNeg)) < (if 0 ≤ ((σ 117 p1.toNatClampNeg) - (σ 117 p2.toNatClampNeg)) then ((σ 117 p1.toNatClampNeg) - (σ 117 p2.toNatClampNeg)) else 0 - ((σ 117 p1.toNatClampNeg) - (σ 117 p2.toNatClampNeg)))) → Φ 0 σ)) : vt_Mi g 2 D_X2_breaks [.ref (g.2.1 116), .int p1, .int p2] σ Φ :=
  mI ok_X2_breaks.1 rfl rfl rfl (s_X2_breaks_0 g σ _ p1 p2 (by
    have h1 := h.1; have h2 := h.2; clear h
    repeat' (first | refine And.intro (fun c => ?_) (fun c => ?_) | (apply And.intro; assumption))
    all_goals (first | exact ⟨_, rfl, h1 (by clear h1 h2; simp_all)⟩ | exact ⟨_, rfl, h2 (by clear h1 h2; simp_all)⟩)))

theorem s_X5_counts_0 (g : vt_GT) (σ : vt_Sg) (P : Option Value → vt_Sg → Prop) (p1 : Int32) (p2 : Int32)
  (h : vp_in p1 100 ∧ ((p2 < (σ 23 p1.toNatClampNeg) → P (some (.int 0)) σ) ∧ (¬ p2 < (σ 23 p1.toNatClampNeg) → ((σ 24 p1.toNatClampNeg) = (-1000000005) → P (some (.int 1)) σ) ∧ (¬ (σ 24 p1.toNatClampNeg) = (-1000000005) → ((σ 24 p1.toNatClampNeg) ≤ p2 → P (some (.int 0)) σ) ∧ (¬ (σ 24 p1.toNatClampNeg) ≤ p2 → P (some (.int 1)) σ))))) :
  TT g (vt_R 0) 0 0 D_X5_counts none 0 [some (.ref (g.2.1 19)), some (.int p1), some (.int p2)] [] σ P := by
  refine q_aload_n dX5_counts_0 rfl ?_
  refine q_getR dX5_counts_1 fF_RX5_21 fl_19_3 ?_
  refine q_iload_n dX5_counts_4 rfl ?_
  obtain ⟨hi1, h⟩ := h
  refine q_ialdX (v := (σ 23 p1.toNatClampNeg)) dX5_counts_5 ar_23 hi1 rfl ?_
  refine q_iload_n dX5_counts_6 rfl ?_
  refine q_icmp_gt (tgt := 35) dX5_counts_7 (by decide) (fun c2 => ?_) (fun c2 => ?_)
  · have h := h.1 c2
    refine q_iconst (v := 0) dX5_counts_35 (by decide) ?_
    exact q_iret .boolean rfl rfl dX5_counts_36 h
  · have h := h.2 c2
    refine q_aload_n dX5_counts_10 rfl ?_
    refine q_getR dX5_counts_11 fF_RX5_24 fl_19_4 ?_
    refine q_iload_n dX5_counts_14 rfl ?_
    refine q_ialdX (v := (σ 24 p1.toNatClampNeg)) dX5_counts_15 ar_24 hi1 rfl ?_
    refine q_ldc dX5_counts_16 ct_RX5_31 ?_
    refine q_icmp_eq (tgt := 31) dX5_counts_18 (by decide) (fun c3 => ?_) (fun c3 => ?_)
    · have h := h.1 c3
      refine q_iconst (v := 1) dX5_counts_31 (by decide) ?_
      refine q_goto (tgt := 36) dX5_counts_32 (by decide) ?_
      exact q_iret .boolean rfl rfl dX5_counts_36 h
    · have h := h.2 c3
      refine q_aload_n dX5_counts_21 rfl ?_
      refine q_getR dX5_counts_22 fF_RX5_24 fl_19_4 ?_
      refine q_iload_n dX5_counts_25 rfl ?_
      refine q_ialdX (v := (σ 24 p1.toNatClampNeg)) dX5_counts_26 ar_24 hi1 rfl ?_
      refine q_iload_n dX5_counts_27 rfl ?_
      refine q_icmp_le (tgt := 35) dX5_counts_28 (by decide) (fun c4 => ?_) (fun c4 => ?_)
      · have h := h.1 c4
        refine q_iconst (v := 0) dX5_counts_35 (by decide) ?_
        exact q_iret .boolean rfl rfl dX5_counts_36 h
      · have h := h.2 c4
        refine q_iconst (v := 1) dX5_counts_31 (by decide) ?_
        refine q_goto (tgt := 36) dX5_counts_32 (by decide) ?_
        exact q_iret .boolean rfl rfl dX5_counts_36 h

theorem c_X5_counts {g : vt_GT} {σ : vt_Sg} {p1 p2 : Int32} (i0 : vp_in p1 100) (Φ : Int32 → vt_Sg → Prop) (h : ((¬ p2 < (σ 23 p1.toNatClampNeg) ∧ (σ 24 p1.toNatClampNeg = (-1000000005) ∨ p2 < (σ 24 p1.toNatClampNeg))) → Φ 1 σ) ∧ (¬ (¬ p2 < (σ 23 p1.toNatClampNeg) ∧ (σ 24 p1.toNatClampNeg = (-1000000005) ∨ p2 < (σ 24 p1.toNatClampNeg))) → Φ 0 σ)) : vt_Mi g 0 D_X5_counts [.ref (g.2.1 19), .int p1, .int p2] σ Φ :=
  mI ok_X5_counts.1 rfl rfl rfl (s_X5_counts_0 g σ _ p1 p2 (by
    have h1 := h.1; have h2 := h.2; clear h
    repeat' (first | refine And.intro (fun c => ?_) (fun c => ?_) | (apply And.intro; assumption))
    all_goals (first | exact ⟨_, rfl, h1 (by clear h1 h2; simp_all)⟩ | exact ⟨_, rfl, h2 (by clear h1 h2; simp_all)⟩)))

theorem s_X8_isDigit_0 (g : vt_GT) (σ : vt_Sg) (P : Option Value → vt_Sg → Prop) (p1 : Int32)
  (h : (p1 < 48 → P (some (.int 0)) σ) ∧ (¬ p1 < 48 → (57 < p1 → P (some (.int 0)) σ) ∧ (¬ 57 < p1 → P (some (.int 1)) σ))) :
  TT g (vt_R 0) 0 0 D_X8_isDigit none 0 [some (.int p1)] [] σ P := by
  refine q_iload_n dX8_isDigit_0 rfl ?_
  refine q_bipush (v := 48) dX8_isDigit_1 (by decide) ?_
  refine q_icmp_lt (tgt := 16) dX8_isDigit_3 (by decide) (fun c1 => ?_) (fun c1 => ?_)
  · have h := h.1 c1
    refine q_iconst (v := 0) dX8_isDigit_16 (by decide) ?_
    exact q_iret .boolean rfl rfl dX8_isDigit_17 h
  · have h := h.2 c1
    refine q_iload_n dX8_isDigit_6 rfl ?_
    refine q_bipush (v := 57) dX8_isDigit_7 (by decide) ?_
    refine q_icmp_gt (tgt := 16) dX8_isDigit_9 (by decide) (fun c2 => ?_) (fun c2 => ?_)
    · have h := h.1 c2
      refine q_iconst (v := 0) dX8_isDigit_16 (by decide) ?_
      exact q_iret .boolean rfl rfl dX8_isDigit_17 h
    · have h := h.2 c2
      refine q_iconst (v := 1) dX8_isDigit_12 (by decide) ?_
      refine q_goto (tgt := 17) dX8_isDigit_13 (by decide) ?_
      exact q_iret .boolean rfl rfl dX8_isDigit_17 h

theorem c_X8_isDigit {g : vt_GT} {σ : vt_Sg} {p1 : Int32}  (Φ : Int32 → vt_Sg → Prop) (h : ((¬ p1 < 48 ∧ ¬ 57 < p1) → Φ 1 σ) ∧ (¬ (¬ p1 < 48 ∧ ¬ 57 < p1) → Φ 0 σ)) : vt_Mi g 0 D_X8_isDigit [.int p1] σ Φ :=
  mI ok_X8_isDigit.1 rfl rfl rfl (s_X8_isDigit_0 g σ _ p1 (by
    have h1 := h.1; have h2 := h.2; clear h
    repeat' (first | refine And.intro (fun c => ?_) (fun c => ?_) | (apply And.intro; assumption))
    all_goals (first | exact ⟨_, rfl, h1 (by clear h1 h2; simp_all)⟩ | exact ⟨_, rfl, h2 (by clear h1 h2; simp_all)⟩)))

theorem s_X8_isLetter_0 (g : vt_GT) (σ : vt_Sg) (P : Option Value → vt_Sg → Prop) (p1 : Int32)
  (h : (p1 < 97 → P (some (.int 0)) σ) ∧ (¬ p1 < 97 → (122 < p1 → P (some (.int 0)) σ) ∧ (¬ 122 < p1 → P (some (.int 1)) σ))) :
  TT g (vt_R 0) 0 0 D_X8_isLetter none 0 [some (.int p1)] [] σ P := by
  refine q_iload_n dX8_isLetter_0 rfl ?_
  refine q_bipush (v := 97) dX8_isLetter_1 (by decide) ?_
  refine q_icmp_lt (tgt := 16) dX8_isLetter_3 (by decide) (fun c1 => ?_) (fun c1 => ?_)
  · have h := h.1 c1
    refine q_iconst (v := 0) dX8_isLetter_16 (by decide) ?_
    exact q_iret .boolean rfl rfl dX8_isLetter_17 h
  · have h := h.2 c1
    refine q_iload_n dX8_isLetter_6 rfl ?_
    refine q_bipush (v := 122) dX8_isLetter_7 (by decide) ?_
    refine q_icmp_gt (tgt := 16) dX8_isLetter_9 (by decide) (fun c2 => ?_) (fun c2 => ?_)
    · have h := h.1 c2
      refine q_iconst (v := 0) dX8_isLetter_16 (by decide) ?_
      exact q_iret .boolean rfl rfl dX8_isLetter_17 h
    · have h := h.2 c2
      refine q_iconst (v := 1) dX8_isLetter_12 (by decide) ?_
      refine q_goto (tgt := 17) dX8_isLetter_13 (by decide) ?_
      exact q_iret .boolean rfl rfl dX8_isLetter_17 h

theorem c_X8_isLetter {g : vt_GT} {σ : vt_Sg} {p1 : Int32}  (Φ : Int32 → vt_Sg → Prop) (h : ((¬ p1 < 97 ∧ ¬ 122 < p1) → Φ 1 σ) ∧ (¬ (¬ p1 < 97 ∧ ¬ 122 < p1) → Φ 0 σ)) : vt_Mi g 0 D_X8_isLetter [.int p1] σ Φ :=
  mI ok_X8_isLetter.1 rfl rfl rfl (s_X8_isLetter_0 g σ _ p1 (by
    have h1 := h.1; have h2 := h.2; clear h
    repeat' (first | refine And.intro (fun c => ?_) (fun c => ?_) | (apply And.intro; assumption))
    all_goals (first | exact ⟨_, rfl, h1 (by clear h1 h2; simp_all)⟩ | exact ⟨_, rfl, h2 (by clear h1 h2; simp_all)⟩)))

theorem s_X8_levelOf_0 (g : vt_GT) (σ : vt_Sg) (P : Option Value → vt_Sg → Prop) (p1 : Int32)
  (h : (p1 = 38 → P (some (.int 1)) σ) ∧ (¬ p1 = 38 → (p1 = 42 → P (some (.int 4)) σ) ∧ (¬ p1 = 42 → (p1 = 43 → P (some (.int 3)) σ) ∧ (¬ p1 = 43 → (p1 = 45 → P (some (.int 3)) σ) ∧ (¬ p1 = 45 → (p1 = 47 → P (some (.int 4)) σ) ∧ (¬ p1 = 47 → (p1 = 60 → P (some (.int 2)) σ) ∧ (¬ p1 = 60 → (p1 = 61 → P (some (.int 2)) σ) ∧ (¬ p1 = 61 → (p1 = 62 → P (some (.int 2)) σ) ∧ (¬ p1 = 62 → (p1 = 124 → P (some (.int 0)) σ) ∧ (¬ p1 = 124 → P (some (.int (-1))) σ)))))))))) :
  TT g (vt_R 0) 0 0 D_X8_levelOf none 0 [some (.int p1)] [] σ P := by
  refine q_iload_n dX8_levelOf_0 rfl ?_
  by_cases n1_0 : p1 = 38
  · have h := h.1 n1_0
    refine q_look (off := 85) (tgt := 86) dX8_levelOf_1 (by decide) (by rw [n1_0]; decide) (by decide) ?_
    refine q_iconst (v := 1) dX8_levelOf_86 (by decide) ?_
    exact q_iret .int rfl rfl dX8_levelOf_87 h
  · have h := h.2 n1_0
    by_cases n1_1 : p1 = 42
    · have h := h.1 n1_1
      refine q_look (off := 91) (tgt := 92) dX8_levelOf_1 (by decide) (by rw [n1_1]; decide) (by decide) ?_
      refine q_iconst (v := 4) dX8_levelOf_92 (by decide) ?_
      exact q_iret .int rfl rfl dX8_levelOf_93 h
    · have h := h.2 n1_1
      by_cases n1_2 : p1 = 43
      · have h := h.1 n1_2
        refine q_look (off := 89) (tgt := 90) dX8_levelOf_1 (by decide) (by rw [n1_2]; decide) (by decide) ?_
        refine q_iconst (v := 3) dX8_levelOf_90 (by decide) ?_
        exact q_iret .int rfl rfl dX8_levelOf_91 h
      · have h := h.2 n1_2
        by_cases n1_3 : p1 = 45
        · have h := h.1 n1_3
          refine q_look (off := 89) (tgt := 90) dX8_levelOf_1 (by decide) (by rw [n1_3]; decide) (by decide) ?_
          refine q_iconst (v := 3) dX8_levelOf_90 (by decide) ?_
          exact q_iret .int rfl rfl dX8_levelOf_91 h
        · have h := h.2 n1_3
          by_cases n1_4 : p1 = 47
          · have h := h.1 n1_4
            refine q_look (off := 91) (tgt := 92) dX8_levelOf_1 (by decide) (by rw [n1_4]; decide) (by decide) ?_
            refine q_iconst (v := 4) dX8_levelOf_92 (by decide) ?_
            exact q_iret .int rfl rfl dX8_levelOf_93 h
          · have h := h.2 n1_4
            by_cases n1_5 : p1 = 60
            · have h := h.1 n1_5
              refine q_look (off := 87) (tgt := 88) dX8_levelOf_1 (by decide) (by rw [n1_5]; decide) (by decide) ?_
              refine q_iconst (v := 2) dX8_levelOf_88 (by decide) ?_
              exact q_iret .int rfl rfl dX8_levelOf_89 h
            · have h := h.2 n1_5
              by_cases n1_6 : p1 = 61
              · have h := h.1 n1_6
                refine q_look (off := 87) (tgt := 88) dX8_levelOf_1 (by decide) (by rw [n1_6]; decide) (by decide) ?_
                refine q_iconst (v := 2) dX8_levelOf_88 (by decide) ?_
                exact q_iret .int rfl rfl dX8_levelOf_89 h
              · have h := h.2 n1_6
                by_cases n1_7 : p1 = 62
                · have h := h.1 n1_7
                  refine q_look (off := 87) (tgt := 88) dX8_levelOf_1 (by decide) (by rw [n1_7]; decide) (by decide) ?_
                  refine q_iconst (v := 2) dX8_levelOf_88 (by decide) ?_
                  exact q_iret .int rfl rfl dX8_levelOf_89 h
                · have h := h.2 n1_7
                  by_cases n1_8 : p1 = 124
                  · have h := h.1 n1_8
                    refine q_look (off := 83) (tgt := 84) dX8_levelOf_1 (by decide) (by rw [n1_8]; decide) (by decide) ?_
                    refine q_iconst (v := 0) dX8_levelOf_84 (by decide) ?_
                    exact q_iret .int rfl rfl dX8_levelOf_85 h
                  · have h := h.2 n1_8
                    refine q_look (off := 93) (tgt := 94) dX8_levelOf_1 (by decide) (by have z0 := lv_neT (a := 38) n1_0 (by decide); have z1 := lv_neT (a := 42) n1_1 (by decide); have z2 := lv_neT (a := 43) n1_2 (by decide); have z3 := lv_neT (a := 45) n1_3 (by decide); have z4 := lv_neT (a := 47) n1_4 (by decide); have z5 := lv_neT (a := 60) n1_5 (by decide); have z6 := lv_neT (a := 61) n1_6 (by decide); have z7 := lv_neT (a := 62) n1_7 (by decide); have z8 := lv_neT (a := 124) n1_8 (by decide); simp [Op.lookupswitch.offset, Ne.symm z0, Ne.symm z1, Ne.symm z2, Ne.symm z3, Ne.symm z4, Ne.symm z5, Ne.symm z6, Ne.symm z7, Ne.symm z8]) (by decide) ?_
                    refine q_iconst (v := (-1)) dX8_levelOf_94 (by decide) ?_
                    exact q_iret .int rfl rfl dX8_levelOf_95 h

theorem c_X8_levelOf {g : vt_GT} {σ : vt_Sg} {p1 : Int32}  (Φ : Int32 → vt_Sg → Prop) (h : Φ (lvl p1) σ) : vt_Mi g 0 D_X8_levelOf [.int p1] σ Φ :=
  mI ok_X8_levelOf.1 rfl rfl rfl (s_X8_levelOf_0 g σ _ p1 (by
    repeat' (first | refine And.intro (fun c => ?_) (fun c => ?_) | (apply And.intro; assumption))
    all_goals exact ⟨_, rfl, by first | (simp_all [lvl]; done) | (simp_all [lvl]; rw [if_neg (Int32.not_lt.mpr (by assumption))] at h; exact h)⟩))

theorem s_X1_join_0 (g : vt_GT) (σ : vt_Sg) (P : Option Value → vt_Sg → Prop) (p1 : Int32) (p2 : Int32) (p3 : Int32)
  (h : (p1 = 38 → (p2 = 0 → P (some (.int 0)) σ) ∧ (¬ p2 = 0 → (p3 = 0 → P (some (.int 0)) σ) ∧ (¬ p3 = 0 → P (some (.int 1)) σ))) ∧ (¬ p1 = 38 → (p1 = 42 → P (some (.int (p2 * p3))) σ) ∧ (¬ p1 = 42 → (p1 = 43 → P (some (.int (p2 + p3))) σ) ∧ (¬ p1 = 43 → (p1 = 45 → P (some (.int (p2 - p3))) σ) ∧ (¬ p1 = 45 → (p1 = 47 → (¬ p3 = 0 → P (some (.int (p2 / p3))) σ) ∧ (p3 = 0 → P (some (.int 0)) σ)) ∧ (¬ p1 = 47 → (p1 = 60 → (p3 ≤ p2 → P (some (.int 0)) σ) ∧ (¬ p3 ≤ p2 → P (some (.int 1)) σ)) ∧ (¬ p1 = 60 → (p1 = 61 → (¬ p2 = p3 → P (some (.int 0)) σ) ∧ (p2 = p3 → P (some (.int 1)) σ)) ∧ (¬ p1 = 61 → (p1 = 62 → (p2 ≤ p3 → P (some (.int 0)) σ) ∧ (¬ p2 ≤ p3 → P (some (.int 1)) σ)) ∧ (¬ p1 = 62 → (¬ p2 = 0 → P (some (.int 1)) σ) ∧ (p2 = 0 → (p3 = 0 → P (some (.int 0)) σ) ∧ (¬ p3 = 0 → P (some (.int 1)) σ))))))))))) :
  TT g (vt_R 0) 0 0 D_X1_join none 0 [some (.int p1), some (.int p2), some (.int p3)] [] σ P := by
  refine q_iload_n dX1_join_0 rfl ?_
  by_cases n1_0 : p1 = 38
  · have h := h.1 n1_0
    refine q_tabE (kk := 38) n1_0 (tgt := 173) (off := 172) dX1_join_1 (by decide) (by decide) rfl (by decide) ?_
    refine q_iload_n dX1_join_173 rfl ?_
    refine q_if_eq (tgt := 185) dX1_join_174 (by decide) (fun c7 => ?_) (fun c7 => ?_)
    · have h := h.1 c7
      refine q_iconst (v := 0) dX1_join_185 (by decide) ?_
      exact q_iret .int rfl rfl dX1_join_186 h
    · have h := h.2 c7
      refine q_iload_n dX1_join_177 rfl ?_
      refine q_if_eq (tgt := 185) dX1_join_178 (by decide) (fun c8 => ?_) (fun c8 => ?_)
      · have h := h.1 c8
        refine q_iconst (v := 0) dX1_join_185 (by decide) ?_
        exact q_iret .int rfl rfl dX1_join_186 h
      · have h := h.2 c8
        refine q_iconst (v := 1) dX1_join_181 (by decide) ?_
        refine q_goto (tgt := 186) dX1_join_182 (by decide) ?_
        exact q_iret .int rfl rfl dX1_join_186 h
  · have h := h.2 n1_0
    by_cases n1_1 : p1 = 42
    · have h := h.1 n1_1
      refine q_tabE (kk := 42) n1_1 (tgt := 124) (off := 123) dX1_join_1 (by decide) (by decide) rfl (by decide) ?_
      refine q_iload_n dX1_join_124 rfl ?_
      refine q_iload_n dX1_join_125 rfl ?_
      refine q_imul dX1_join_126 ?_
      exact q_iret .int rfl rfl dX1_join_127 h
    · have h := h.2 n1_1
      by_cases n1_2 : p1 = 43
      · have h := h.1 n1_2
        refine q_tabE (kk := 43) n1_2 (tgt := 116) (off := 115) dX1_join_1 (by decide) (by decide) rfl (by decide) ?_
        refine q_iload_n dX1_join_116 rfl ?_
        refine q_iload_n dX1_join_117 rfl ?_
        refine q_iadd dX1_join_118 ?_
        exact q_iret .int rfl rfl dX1_join_119 h
      · have h := h.2 n1_2
        by_cases n1_3 : p1 = 45
        · have h := h.1 n1_3
          refine q_tabE (kk := 45) n1_3 (tgt := 120) (off := 119) dX1_join_1 (by decide) (by decide) rfl (by decide) ?_
          refine q_iload_n dX1_join_120 rfl ?_
          refine q_iload_n dX1_join_121 rfl ?_
          refine q_isub dX1_join_122 ?_
          exact q_iret .int rfl rfl dX1_join_123 h
        · have h := h.2 n1_3
          by_cases n1_4 : p1 = 47
          · have h := h.1 n1_4
            refine q_tabE (kk := 47) n1_4 (tgt := 128) (off := 127) dX1_join_1 (by decide) (by decide) rfl (by decide) ?_
            refine q_iload_n dX1_join_128 rfl ?_
            refine q_if_ne (tgt := 136) dX1_join_129 (by decide) (fun c6 => ?_) (fun c6 => ?_)
            · have h := h.1 c6
              refine q_iload_n dX1_join_136 rfl ?_
              refine q_iload_n dX1_join_137 rfl ?_
              refine q_idiv dX1_join_138 c6 ?_
              exact q_iret .int rfl rfl dX1_join_139 h
            · have h := h.2 c6
              refine q_iconst (v := 0) dX1_join_132 (by decide) ?_
              refine q_goto (tgt := 139) dX1_join_133 (by decide) ?_
              exact q_iret .int rfl rfl dX1_join_139 h
          · have h := h.2 n1_4
            by_cases n1_5 : p1 = 60
            · have h := h.1 n1_5
              refine q_tabE (kk := 60) n1_5 (tgt := 140) (off := 139) dX1_join_1 (by decide) (by decide) rfl (by decide) ?_
              refine q_iload_n dX1_join_140 rfl ?_
              refine q_iload_n dX1_join_141 rfl ?_
              refine q_icmp_ge (tgt := 149) dX1_join_142 (by decide) (fun c5 => ?_) (fun c5 => ?_)
              · have h := h.1 c5
                refine q_iconst (v := 0) dX1_join_149 (by decide) ?_
                exact q_iret .int rfl rfl dX1_join_150 h
              · have h := h.2 c5
                refine q_iconst (v := 1) dX1_join_145 (by decide) ?_
                refine q_goto (tgt := 150) dX1_join_146 (by decide) ?_
                exact q_iret .int rfl rfl dX1_join_150 h
            · have h := h.2 n1_5
              by_cases n1_6 : p1 = 61
              · have h := h.1 n1_6
                refine q_tabE (kk := 61) n1_6 (tgt := 151) (off := 150) dX1_join_1 (by decide) (by decide) rfl (by decide) ?_
                refine q_iload_n dX1_join_151 rfl ?_
                refine q_iload_n dX1_join_152 rfl ?_
                refine q_icmp_ne (tgt := 160) dX1_join_153 (by decide) (fun c4 => ?_) (fun c4 => ?_)
                · have h := h.1 c4
                  refine q_iconst (v := 0) dX1_join_160 (by decide) ?_
                  exact q_iret .int rfl rfl dX1_join_161 h
                · have h := h.2 c4
                  refine q_iconst (v := 1) dX1_join_156 (by decide) ?_
                  refine q_goto (tgt := 161) dX1_join_157 (by decide) ?_
                  exact q_iret .int rfl rfl dX1_join_161 h
              · have h := h.2 n1_6
                by_cases n1_7 : p1 = 62
                · have h := h.1 n1_7
                  refine q_tabE (kk := 62) n1_7 (tgt := 162) (off := 161) dX1_join_1 (by decide) (by decide) rfl (by decide) ?_
                  refine q_iload_n dX1_join_162 rfl ?_
                  refine q_iload_n dX1_join_163 rfl ?_
                  refine q_icmp_le (tgt := 171) dX1_join_164 (by decide) (fun c3 => ?_) (fun c3 => ?_)
                  · have h := h.1 c3
                    refine q_iconst (v := 0) dX1_join_171 (by decide) ?_
                    exact q_iret .int rfl rfl dX1_join_172 h
                  · have h := h.2 c3
                    refine q_iconst (v := 1) dX1_join_167 (by decide) ?_
                    refine q_goto (tgt := 172) dX1_join_168 (by decide) ?_
                    exact q_iret .int rfl rfl dX1_join_172 h
                · have h := h.2 n1_7
                  have hdef : TT g (vt_R 0) 0 0 D_X1_join none 187 [some (.int p1), some (.int p2), some (.int p3)] [] σ P := by
                    refine q_iload_n dX1_join_187 rfl ?_
                    refine q_if_ne (tgt := 195) dX1_join_188 (by decide) (fun c1 => ?_) (fun c1 => ?_)
                    · have h := h.1 c1
                      refine q_iconst (v := 1) dX1_join_195 (by decide) ?_
                      refine q_goto (tgt := 200) dX1_join_196 (by decide) ?_
                      exact q_iret .int rfl rfl dX1_join_200 h
                    · have h := h.2 c1
                      refine q_iload_n dX1_join_191 rfl ?_
                      refine q_if_eq (tgt := 199) dX1_join_192 (by decide) (fun c2 => ?_) (fun c2 => ?_)
                      · have h := h.1 c2
                        refine q_iconst (v := 0) dX1_join_199 (by decide) ?_
                        exact q_iret .int rfl rfl dX1_join_200 h
                      · have h := h.2 c2
                        refine q_iconst (v := 1) dX1_join_195 (by decide) ?_
                        refine q_goto (tgt := 200) dX1_join_196 (by decide) ?_
                        exact q_iret .int rfl rfl dX1_join_200 h
                  by_cases out : p1.toInt < 38 ∨ 62 < p1.toInt
                  · exact q_tabOut (tgt := 187) dX1_join_1 out (by decide) hdef
                  · have hh : p1.toInt = 39 ∨ p1.toInt = 40 ∨ p1.toInt = 41 ∨ p1.toInt = 44 ∨ p1.toInt = 46 ∨ p1.toInt = 48 ∨ p1.toInt = 49 ∨ p1.toInt = 50 ∨ p1.toInt = 51 ∨ p1.toInt = 52 ∨ p1.toInt = 53 ∨ p1.toInt = 54 ∨ p1.toInt = 55 ∨ p1.toInt = 56 ∨ p1.toInt = 57 ∨ p1.toInt = 58 ∨ p1.toInt = 59 := by have z0 := lv_neT (a := 38) n1_0 (by decide); have z1 := lv_neT (a := 42) n1_1 (by decide); have z2 := lv_neT (a := 43) n1_2 (by decide); have z3 := lv_neT (a := 45) n1_3 (by decide); have z4 := lv_neT (a := 47) n1_4 (by decide); have z5 := lv_neT (a := 60) n1_5 (by decide); have z6 := lv_neT (a := 61) n1_6 (by decide); have z7 := lv_neT (a := 62) n1_7 (by decide); omega
                    rcases hh with hh | hh | hh | hh | hh | hh | hh | hh | hh | hh | hh | hh | hh | hh | hh | hh | hh
                    · exact q_tabE (kk := 39) (Int32.toInt_inj.mp (by rw [hh]; rfl)) (tgt := 187) (off := 186) dX1_join_1 (by decide) (by decide) rfl (by decide) hdef
                    · exact q_tabE (kk := 40) (Int32.toInt_inj.mp (by rw [hh]; rfl)) (tgt := 187) (off := 186) dX1_join_1 (by decide) (by decide) rfl (by decide) hdef
                    · exact q_tabE (kk := 41) (Int32.toInt_inj.mp (by rw [hh]; rfl)) (tgt := 187) (off := 186) dX1_join_1 (by decide) (by decide) rfl (by decide) hdef
                    · exact q_tabE (kk := 44) (Int32.toInt_inj.mp (by rw [hh]; rfl)) (tgt := 187) (off := 186) dX1_join_1 (by decide) (by decide) rfl (by decide) hdef
                    · exact q_tabE (kk := 46) (Int32.toInt_inj.mp (by rw [hh]; rfl)) (tgt := 187) (off := 186) dX1_join_1 (by decide) (by decide) rfl (by decide) hdef
                    · exact q_tabE (kk := 48) (Int32.toInt_inj.mp (by rw [hh]; rfl)) (tgt := 187) (off := 186) dX1_join_1 (by decide) (by decide) rfl (by decide) hdef
                    · exact q_tabE (kk := 49) (Int32.toInt_inj.mp (by rw [hh]; rfl)) (tgt := 187) (off := 186) dX1_join_1 (by decide) (by decide) rfl (by decide) hdef
                    · exact q_tabE (kk := 50) (Int32.toInt_inj.mp (by rw [hh]; rfl)) (tgt := 187) (off := 186) dX1_join_1 (by decide) (by decide) rfl (by decide) hdef
                    · exact q_tabE (kk := 51) (Int32.toInt_inj.mp (by rw [hh]; rfl)) (tgt := 187) (off := 186) dX1_join_1 (by decide) (by decide) rfl (by decide) hdef
                    · exact q_tabE (kk := 52) (Int32.toInt_inj.mp (by rw [hh]; rfl)) (tgt := 187) (off := 186) dX1_join_1 (by decide) (by decide) rfl (by decide) hdef
                    · exact q_tabE (kk := 53) (Int32.toInt_inj.mp (by rw [hh]; rfl)) (tgt := 187) (off := 186) dX1_join_1 (by decide) (by decide) rfl (by decide) hdef
                    · exact q_tabE (kk := 54) (Int32.toInt_inj.mp (by rw [hh]; rfl)) (tgt := 187) (off := 186) dX1_join_1 (by decide) (by decide) rfl (by decide) hdef
                    · exact q_tabE (kk := 55) (Int32.toInt_inj.mp (by rw [hh]; rfl)) (tgt := 187) (off := 186) dX1_join_1 (by decide) (by decide) rfl (by decide) hdef
                    · exact q_tabE (kk := 56) (Int32.toInt_inj.mp (by rw [hh]; rfl)) (tgt := 187) (off := 186) dX1_join_1 (by decide) (by decide) rfl (by decide) hdef
                    · exact q_tabE (kk := 57) (Int32.toInt_inj.mp (by rw [hh]; rfl)) (tgt := 187) (off := 186) dX1_join_1 (by decide) (by decide) rfl (by decide) hdef
                    · exact q_tabE (kk := 58) (Int32.toInt_inj.mp (by rw [hh]; rfl)) (tgt := 187) (off := 186) dX1_join_1 (by decide) (by decide) rfl (by decide) hdef
                    · exact q_tabE (kk := 59) (Int32.toInt_inj.mp (by rw [hh]; rfl)) (tgt := 187) (off := 186) dX1_join_1 (by decide) (by decide) rfl (by decide) hdef

theorem c_X1_join {g : vt_GT} {σ : vt_Sg} {p1 p2 p3 : Int32}  (Φ : Int32 → vt_Sg → Prop) (h : Φ (jn p1 p2 p3) σ) : vt_Mi g 0 D_X1_join [.int p1, .int p2, .int p3] σ Φ :=
  mI ok_X1_join.1 rfl rfl rfl (s_X1_join_0 g σ _ p1 p2 p3 (by
    repeat' (first | refine And.intro (fun c => ?_) (fun c => ?_) | (apply And.intro; assumption))
    all_goals exact ⟨_, rfl, by first | (simp_all [jn]; done) | (simp_all [jn]; rw [if_neg (Int32.not_lt.mpr (by assumption))] at h; exact h)⟩))

theorem s_X12_within_0 (g : vt_GT) (σ : vt_Sg) (P : Option Value → vt_Sg → Prop) (p1 : Int32) (p2 : Int32) (p3 : Int32)
  (h : (p1 < p2 → P (some (.int 0)) σ) ∧ (¬ p1 < p2 → (p3 < p1 → P (some (.int 0)) σ) ∧ (¬ p3 < p1 → P (some (.int 1)) σ))) :
  TT g (vt_R 0) 0 0 D_X12_within none 0 [some (.int p1), some (.int p2), some (.int p3)] [] σ P := by
  refine q_iload_n dX12_within_0 rfl ?_
  refine q_iload_n dX12_within_1 rfl ?_
  refine q_icmp_lt (tgt := 14) dX12_within_2 (by decide) (fun c1 => ?_) (fun c1 => ?_)
  · have h := h.1 c1
    refine q_iconst (v := 0) dX12_within_14 (by decide) ?_
    exact q_iret .boolean rfl rfl dX12_within_15 h
  · have h := h.2 c1
    refine q_iload_n dX12_within_5 rfl ?_
    refine q_iload_n dX12_within_6 rfl ?_
    refine q_icmp_gt (tgt := 14) dX12_within_7 (by decide) (fun c2 => ?_) (fun c2 => ?_)
    · have h := h.1 c2
      refine q_iconst (v := 0) dX12_within_14 (by decide) ?_
      exact q_iret .boolean rfl rfl dX12_within_15 h
    · have h := h.2 c2
      refine q_iconst (v := 1) dX12_within_10 (by decide) ?_
      refine q_goto (tgt := 15) dX12_within_11 (by decide) ?_
      exact q_iret .boolean rfl rfl dX12_within_15 h

theorem c_X12_within {g : vt_GT} {σ : vt_Sg} {p1 p2 p3 : Int32}  (Φ : Int32 → vt_Sg → Prop) (h : ((¬ p1 < p2 ∧ ¬ p3 < p1) → Φ 1 σ) ∧ (¬ (¬ p1 < p2 ∧ ¬ p3 < p1) → Φ 0 σ)) : vt_Mi g 0 D_X12_within [.int p1, .int p2, .int p3] σ Φ :=
  mI ok_X12_within.1 rfl rfl rfl (s_X12_within_0 g σ _ p1 p2 p3 (by
    have h1 := h.1; have h2 := h.2; clear h
    repeat' (first | refine And.intro (fun c => ?_) (fun c => ?_) | (apply And.intro; assumption))
    all_goals (first | exact ⟨_, rfl, h1 (by clear h1 h2; simp_all)⟩ | exact ⟨_, rfl, h2 (by clear h1 h2; simp_all)⟩)))

theorem s_X12_isPlace_0 (g : vt_GT) (σ : vt_Sg) (P : Option Value → vt_Sg → Prop) (p1 : Int32)
  (h : ((¬ p1 < (0 : Int32) ∧ ¬ (11 : Int32) < p1) → P (some (.int 1)) σ) ∧ (¬ (¬ p1 < (0 : Int32) ∧ ¬ (11 : Int32) < p1) → P (some (.int 0)) σ)) :
  TT g (vt_R 1) 0 0 D_X12_isPlace none 0 [some (.int p1)] [] σ P := by
  refine q_iload_n dX12_isPlace_0 rfl ?_
  refine q_iconst (v := 0) dX12_isPlace_1 (by decide) ?_
  refine q_bipush (v := 11) dX12_isPlace_2 (by decide) ?_
  refine q_cSb (C := ¬ p1 < (0 : Int32) ∧ ¬ (11 : Int32) < p1) (d' := 0) [.int p1, .int 0, .int 11] [] dX12_isPlace_4 ok_X12_within mk_RX12_49 rfl (Nat.le_of_ble_eq_true rfl) (by first | decide | omega) (fun Φ h9 => c_X12_within (σ := σ) Φ h9) (fun c1 => ?_) (fun c1 => ?_)
  · have h := h.1 c1
    exact q_iret .boolean rfl rfl dX12_isPlace_7 h
  · have h := h.2 c1
    exact q_iret .boolean rfl rfl dX12_isPlace_7 h

theorem c_X12_isPlace {g : vt_GT} {σ : vt_Sg} {p1 : Int32}  (Φ : Int32 → vt_Sg → Prop) (h : ((¬ p1 < 0 ∧ ¬ 11 < p1) → Φ 1 σ) ∧ (¬ (¬ p1 < 0 ∧ ¬ 11 < p1) → Φ 0 σ)) : vt_Mi g 1 D_X12_isPlace [.int p1] σ Φ :=
  mI ok_X12_isPlace.1 rfl rfl rfl (s_X12_isPlace_0 g σ _ p1 (by
    have h1 := h.1; have h2 := h.2; clear h
    repeat' (first | refine And.intro (fun c => ?_) (fun c => ?_) | (apply And.intro; assumption))
    all_goals (first | exact ⟨_, rfl, h1 (by clear h1 h2; simp_all)⟩ | exact ⟨_, rfl, h2 (by clear h1 h2; simp_all)⟩)))

theorem s_X12_isShop_0 (g : vt_GT) (σ : vt_Sg) (P : Option Value → vt_Sg → Prop) (p1 : Int32)
  (h : ((¬ p1 < (0 : Int32) ∧ ¬ ((σ 169 2) - 1) < p1) → P (some (.int 1)) σ) ∧ (¬ (¬ p1 < (0 : Int32) ∧ ¬ ((σ 169 2) - 1) < p1) → P (some (.int 0)) σ)) :
  TT g (vt_R 1) 0 0 D_X12_isShop none 0 [some (.ref (g.2.1 168)), some (.int p1)] [] σ P := by
  refine q_iload_n dX12_isShop_0 rfl ?_
  refine q_iconst (v := 0) dX12_isShop_1 (by decide) ?_
  refine q_aload_n dX12_isShop_2 rfl ?_
  refine q_getR dX12_isShop_3 fF_RX12_9 fl_168_0 ?_
  refine q_iconst (v := 2) dX12_isShop_6 (by decide) ?_
  refine q_ialdX (v := (σ 169 2)) dX12_isShop_7 ar_169 (vt_inl rfl) rfl ?_
  refine q_iconst (v := 1) dX12_isShop_8 (by decide) ?_
  refine q_isub dX12_isShop_9 ?_
  refine q_cSb (C := ¬ p1 < (0 : Int32) ∧ ¬ ((σ 169 2) - 1) < p1) (d' := 0) [.int p1, .int 0, .int ((σ 169 2) - 1)] [] dX12_isShop_10 ok_X12_within mk_RX12_49 rfl (Nat.le_of_ble_eq_true rfl) (by first | decide | omega) (fun Φ h9 => c_X12_within (σ := σ) Φ h9) (fun c1 => ?_) (fun c1 => ?_)
  · have h := h.1 c1
    exact q_iret .boolean rfl rfl dX12_isShop_13 h
  · have h := h.2 c1
    exact q_iret .boolean rfl rfl dX12_isShop_13 h

theorem c_X12_isShop {g : vt_GT} {σ : vt_Sg} {p1 : Int32}  (Φ : Int32 → vt_Sg → Prop) (h : ((¬ p1 < 0 ∧ ¬ (σ 169 2) - 1 < p1) → Φ 1 σ) ∧ (¬ (¬ p1 < 0 ∧ ¬ (σ 169 2) - 1 < p1) → Φ 0 σ)) : vt_Mi g 1 D_X12_isShop [.ref (g.2.1 168), .int p1] σ Φ :=
  mI ok_X12_isShop.1 rfl rfl rfl (s_X12_isShop_0 g σ _ p1 (by
    have h1 := h.1; have h2 := h.2; clear h
    repeat' (first | refine And.intro (fun c => ?_) (fun c => ?_) | (apply And.intro; assumption))
    all_goals (first | exact ⟨_, rfl, h1 (by clear h1 h2; simp_all)⟩ | exact ⟨_, rfl, h2 (by clear h1 h2; simp_all)⟩)))

theorem s_X12_isPast_0 (g : vt_GT) (σ : vt_Sg) (P : Option Value → vt_Sg → Prop) (p1 : Int32)
  (h : ((¬ p1 < (0 : Int32) ∧ ¬ (σ 169 0) < p1) → P (some (.int 1)) σ) ∧ (¬ (¬ p1 < (0 : Int32) ∧ ¬ (σ 169 0) < p1) → P (some (.int 0)) σ)) :
  TT g (vt_R 1) 0 0 D_X12_isPast none 0 [some (.ref (g.2.1 168)), some (.int p1)] [] σ P := by
  refine q_iload_n dX12_isPast_0 rfl ?_
  refine q_iconst (v := 0) dX12_isPast_1 (by decide) ?_
  refine q_aload_n dX12_isPast_2 rfl ?_
  refine q_getR dX12_isPast_3 fF_RX12_9 fl_168_0 ?_
  refine q_iconst (v := 0) dX12_isPast_6 (by decide) ?_
  refine q_ialdX (v := (σ 169 0)) dX12_isPast_7 ar_169 (vt_inl rfl) rfl ?_
  refine q_cSb (C := ¬ p1 < (0 : Int32) ∧ ¬ (σ 169 0) < p1) (d' := 0) [.int p1, .int 0, .int (σ 169 0)] [] dX12_isPast_8 ok_X12_within mk_RX12_49 rfl (Nat.le_of_ble_eq_true rfl) (by first | decide | omega) (fun Φ h9 => c_X12_within (σ := σ) Φ h9) (fun c1 => ?_) (fun c1 => ?_)
  · have h := h.1 c1
    exact q_iret .boolean rfl rfl dX12_isPast_11 h
  · have h := h.2 c1
    exact q_iret .boolean rfl rfl dX12_isPast_11 h

theorem c_X12_isPast {g : vt_GT} {σ : vt_Sg} {p1 : Int32}  (Φ : Int32 → vt_Sg → Prop) (h : ((¬ p1 < 0 ∧ ¬ (σ 169 0) < p1) → Φ 1 σ) ∧ (¬ (¬ p1 < 0 ∧ ¬ (σ 169 0) < p1) → Φ 0 σ)) : vt_Mi g 1 D_X12_isPast [.ref (g.2.1 168), .int p1] σ Φ :=
  mI ok_X12_isPast.1 rfl rfl rfl (s_X12_isPast_0 g σ _ p1 (by
    have h1 := h.1; have h2 := h.2; clear h
    repeat' (first | refine And.intro (fun c => ?_) (fun c => ?_) | (apply And.intro; assumption))
    all_goals (first | exact ⟨_, rfl, h1 (by clear h1 h2; simp_all)⟩ | exact ⟨_, rfl, h2 (by clear h1 h2; simp_all)⟩)))

theorem s_X12_of_0 (g : vt_GT) (σ : vt_Sg) (P : Option Value → vt_Sg → Prop) (p1 : Int32) (p2 : Int32)
  (h : P (some (.int ((30 + (8 * p1)) + p2))) σ) :
  TT g (vt_R 0) 0 0 D_X12_of none 0 [some (.int p1), some (.int p2)] [] σ P := by
  refine q_bipush (v := 30) dX12_of_0 (by decide) ?_
  refine q_bipush (v := 8) dX12_of_2 (by decide) ?_
  refine q_iload_n dX12_of_4 rfl ?_
  refine q_imul dX12_of_5 ?_
  refine q_iadd dX12_of_6 ?_
  refine q_iload_n dX12_of_7 rfl ?_
  refine q_iadd dX12_of_8 ?_
  exact q_iret .int rfl rfl dX12_of_9 h

theorem c_X12_of {g : vt_GT} {σ : vt_Sg} {p1 p2 : Int32}  (Φ : Int32 → vt_Sg → Prop) (h : Φ (30 + 8 * p1 + p2) σ) : vt_Mi g 0 D_X12_of [.int p1, .int p2] σ Φ :=
  mI ok_X12_of.1 rfl rfl rfl (s_X12_of_0 g σ _ p1 p2 (by
    repeat' (first | refine And.intro (fun c => ?_) (fun c => ?_) | (apply And.intro; assumption))
    all_goals exact ⟨_, rfl, by simp_all⟩))

theorem s_X12_gone_0 (g : vt_GT) (σ : vt_Sg) (P : Option Value → vt_Sg → Prop) (p1 : Int32)
  (h : vp_in ((340 + (2 * p1)) + 1) 2220 ∧ (P (some (.int (((σ 169 ((340 + (2 * p1)) + 1).toNatClampNeg) / 175692) - 1))) σ)) :
  TT g (vt_R 0) 0 0 D_X12_gone none 0 [some (.ref (g.2.1 168)), some (.int p1)] [] σ P := by
  refine q_aload_n dX12_gone_0 rfl ?_
  refine q_getR dX12_gone_1 fF_RX12_9 fl_168_0 ?_
  refine q_sipush (v := 340) dX12_gone_4 (by decide) ?_
  refine q_iconst (v := 2) dX12_gone_7 (by decide) ?_
  refine q_iload_n dX12_gone_8 rfl ?_
  refine q_imul dX12_gone_9 ?_
  refine q_iadd dX12_gone_10 ?_
  refine q_iconst (v := 1) dX12_gone_11 (by decide) ?_
  refine q_iadd dX12_gone_12 ?_
  obtain ⟨hi1, h⟩ := h
  refine q_ialdX (v := (σ 169 ((340 + (2 * p1)) + 1).toNatClampNeg)) dX12_gone_13 ar_169 hi1 rfl ?_
  refine q_ldc dX12_gone_14 ct_RX12_120 ?_
  refine q_idiv dX12_gone_16 (by decide) ?_
  refine q_iconst (v := 1) dX12_gone_17 (by decide) ?_
  refine q_isub dX12_gone_18 ?_
  exact q_iret .int rfl rfl dX12_gone_19 h

theorem c_X12_gone {g : vt_GT} {σ : vt_Sg} {p1 : Int32} (i0 : vp_in (340 + 2 * p1 + 1) 2220) (Φ : Int32 → vt_Sg → Prop) (h : Φ ((σ 169 (340 + 2 * p1 + 1).toNatClampNeg) / 175692 - 1) σ) : vt_Mi g 0 D_X12_gone [.ref (g.2.1 168), .int p1] σ Φ :=
  mI ok_X12_gone.1 rfl rfl rfl (s_X12_gone_0 g σ _ p1 (by
    repeat' (first | refine And.intro (fun c => ?_) (fun c => ?_) | (apply And.intro; assumption))
    all_goals exact ⟨_, rfl, by simp_all⟩))

theorem s_X12_hasLease_0 (g : vt_GT) (σ : vt_Sg) (P : Option Value → vt_Sg → Prop) (p1 : Int32)
  (h : vp_in (30 + 8 * p1 + (7 : Int32)) 2220 ∧ (((σ 169 (30 + 8 * p1 + (7 : Int32)).toNatClampNeg) ≤ 0 → P (some (.int 0)) σ) ∧ (¬ (σ 169 (30 + 8 * p1 + (7 : Int32)).toNatClampNeg) ≤ 0 → P (some (.int 1)) σ))) :
  TT g (vt_R 1) 0 0 D_X12_hasLease none 0 [some (.ref (g.2.1 168)), some (.int p1)] [] σ P := by
  refine q_aload_n dX12_hasLease_0 rfl ?_
  refine q_getR dX12_hasLease_1 fF_RX12_9 fl_168_0 ?_
  refine q_iload_n dX12_hasLease_4 rfl ?_
  refine q_bipush (v := 7) dX12_hasLease_5 (by decide) ?_
  refine q_cSi (e := (30 + 8 * p1 + (7 : Int32))) (d' := 0) [.int p1, .int 7] [.ref (g.2.1 169)] dX12_hasLease_7 ok_X12_of mk_RX12_61 rfl (Nat.le_of_ble_eq_true rfl) (by first | decide | omega) (fun Φ h9 => c_X12_of (σ := σ) Φ h9) ?_
  obtain ⟨hi1, h⟩ := h
  refine q_ialdX (v := (σ 169 (30 + 8 * p1 + (7 : Int32)).toNatClampNeg)) dX12_hasLease_10 ar_169 hi1 rfl ?_
  refine q_if_le (tgt := 18) dX12_hasLease_11 (by decide) (fun c2 => ?_) (fun c2 => ?_)
  · have h := h.1 c2
    refine q_iconst (v := 0) dX12_hasLease_18 (by decide) ?_
    exact q_iret .boolean rfl rfl dX12_hasLease_19 h
  · have h := h.2 c2
    refine q_iconst (v := 1) dX12_hasLease_14 (by decide) ?_
    refine q_goto (tgt := 19) dX12_hasLease_15 (by decide) ?_
    exact q_iret .boolean rfl rfl dX12_hasLease_19 h

theorem c_X12_hasLease {g : vt_GT} {σ : vt_Sg} {p1 : Int32} (i0 : vp_in (30 + 8 * p1 + 7) 2220) (Φ : Int32 → vt_Sg → Prop) (h : ((0 < (σ 169 (30 + 8 * p1 + 7).toNatClampNeg)) → Φ 1 σ) ∧ (¬ (0 < (σ 169 (30 + 8 * p1 + 7).toNatClampNeg)) → Φ 0 σ)) : vt_Mi g 1 D_X12_hasLease [.ref (g.2.1 168), .int p1] σ Φ :=
  mI ok_X12_hasLease.1 rfl rfl rfl (s_X12_hasLease_0 g σ _ p1 (by
    have h1 := h.1; have h2 := h.2; clear h
    repeat' (first | refine And.intro (fun c => ?_) (fun c => ?_) | (apply And.intro; assumption))
    all_goals (first | exact ⟨_, rfl, h1 (by clear h1 h2; simp_all)⟩ | exact ⟨_, rfl, h2 (by clear h1 h2; simp_all)⟩)))

theorem s_X12_pays_0 (g : vt_GT) (σ : vt_Sg) (P : Option Value → vt_Sg → Prop) (p1 : Int32)
  (h : vp_in p1 12 ∧ (((σ 175 p1.toNatClampNeg) < 0 → P (some (.int 0)) σ) ∧ (¬ (σ 175 p1.toNatClampNeg) < 0 → vp_in (30 + 8 * p1 + (0 : Int32)) 2220 ∧ (((σ 169 (30 + 8 * p1 + (0 : Int32)).toNatClampNeg) = 3 → P (some (.int 0)) σ) ∧ (¬ (σ 169 (30 + 8 * p1 + (0 : Int32)).toNatClampNeg) = 3 → P (some (.int 1)) σ))))) :
  TT g (vt_R 1) 0 0 D_X12_pays none 0 [some (.ref (g.2.1 168)), some (.int p1)] [] σ P := by
  refine q_aload_n dX12_pays_0 rfl ?_
  refine q_getR dX12_pays_1 fF_RX12_28 fl_168_9 ?_
  refine q_iload_n dX12_pays_4 rfl ?_
  obtain ⟨hi1, h⟩ := h
  refine q_ialdX (v := (σ 175 p1.toNatClampNeg)) dX12_pays_5 ar_175 hi1 rfl ?_
  refine q_if_lt (tgt := 27) dX12_pays_6 (by decide) (fun c2 => ?_) (fun c2 => ?_)
  · have h := h.1 c2
    refine q_iconst (v := 0) dX12_pays_27 (by decide) ?_
    exact q_iret .boolean rfl rfl dX12_pays_28 h
  · have h := h.2 c2
    refine q_aload_n dX12_pays_9 rfl ?_
    refine q_getR dX12_pays_10 fF_RX12_9 fl_168_0 ?_
    refine q_iload_n dX12_pays_13 rfl ?_
    refine q_iconst (v := 0) dX12_pays_14 (by decide) ?_
    refine q_cSi (e := (30 + 8 * p1 + (0 : Int32))) (d' := 0) [.int p1, .int 0] [.ref (g.2.1 169)] dX12_pays_15 ok_X12_of mk_RX12_61 rfl (Nat.le_of_ble_eq_true rfl) (by first | decide | omega) (fun Φ h9 => c_X12_of (σ := σ) Φ h9) ?_
    obtain ⟨hi3, h⟩ := h
    refine q_ialdX (v := (σ 169 (30 + 8 * p1 + (0 : Int32)).toNatClampNeg)) dX12_pays_18 ar_169 hi3 rfl ?_
    refine q_iconst (v := 3) dX12_pays_19 (by decide) ?_
    refine q_icmp_eq (tgt := 27) dX12_pays_20 (by decide) (fun c4 => ?_) (fun c4 => ?_)
    · have h := h.1 c4
      refine q_iconst (v := 0) dX12_pays_27 (by decide) ?_
      exact q_iret .boolean rfl rfl dX12_pays_28 h
    · have h := h.2 c4
      refine q_iconst (v := 1) dX12_pays_23 (by decide) ?_
      refine q_goto (tgt := 28) dX12_pays_24 (by decide) ?_
      exact q_iret .boolean rfl rfl dX12_pays_28 h

theorem c_X12_pays {g : vt_GT} {σ : vt_Sg} {p1 : Int32} (i0 : vp_in p1 12) (i1 : vp_in (30 + 8 * p1 + 0) 2220) (Φ : Int32 → vt_Sg → Prop) (h : ((¬ (σ 175 p1.toNatClampNeg) < 0 ∧ ¬ σ 169 (30 + 8 * p1 + 0).toNatClampNeg = 3) → Φ 1 σ) ∧ (¬ (¬ (σ 175 p1.toNatClampNeg) < 0 ∧ ¬ σ 169 (30 + 8 * p1 + 0).toNatClampNeg = 3) → Φ 0 σ)) : vt_Mi g 1 D_X12_pays [.ref (g.2.1 168), .int p1] σ Φ :=
  mI ok_X12_pays.1 rfl rfl rfl (s_X12_pays_0 g σ _ p1 (by
    have h1 := h.1; have h2 := h.2; clear h
    repeat' (first | refine And.intro (fun c => ?_) (fun c => ?_) | (apply And.intro; assumption))
    all_goals (first | exact ⟨_, rfl, h1 (by clear h1 h2; simp_all)⟩ | exact ⟨_, rfl, h2 (by clear h1 h2; simp_all)⟩)))

theorem s_X12_isLetter_0 (g : vt_GT) (σ : vt_Sg) (P : Option Value → vt_Sg → Prop) (p1 : Int32)
  (h : ((σ 168 4) ≤ p1 → P (some (.int 0)) σ) ∧ (¬ (σ 168 4) ≤ p1 → vp_in p1 132 ∧ (((¬ (σ 171 p1.toNatClampNeg) < (97 : Int32) ∧ ¬ (122 : Int32) < (σ 171 p1.toNatClampNeg)) → P (some (.int 1)) σ) ∧ (¬ (¬ (σ 171 p1.toNatClampNeg) < (97 : Int32) ∧ ¬ (122 : Int32) < (σ 171 p1.toNatClampNeg)) → P (some (.int 0)) σ)))) :
  TT g (vt_R 1) 0 0 D_X12_isLetter none 0 [some (.ref (g.2.1 168)), some (.int p1)] [] σ P := by
  refine q_iload_n dX12_isLetter_0 rfl ?_
  refine q_aload_n dX12_isLetter_1 rfl ?_
  refine q_getX (x := (σ 168 4)) dX12_isLetter_2 fF_RX12_129 fl_168_4 rfl ?_
  refine q_icmp_ge (tgt := 28) dX12_isLetter_5 (by decide) (fun c1 => ?_) (fun c1 => ?_)
  · have h := h.1 c1
    refine q_iconst (v := 0) dX12_isLetter_28 (by decide) ?_
    exact q_iret .boolean rfl rfl dX12_isLetter_29 h
  · have h := h.2 c1
    refine q_aload_n dX12_isLetter_8 rfl ?_
    refine q_getR dX12_isLetter_9 fF_RX12_16 fl_168_3 ?_
    refine q_iload_n dX12_isLetter_12 rfl ?_
    obtain ⟨hi2, h⟩ := h
    refine q_ialdX (v := (σ 171 p1.toNatClampNeg)) dX12_isLetter_13 ar_171 hi2 rfl ?_
    refine q_bipush (v := 97) dX12_isLetter_14 (by decide) ?_
    refine q_bipush (v := 122) dX12_isLetter_16 (by decide) ?_
    refine q_cSb (C := ¬ (σ 171 p1.toNatClampNeg) < (97 : Int32) ∧ ¬ (122 : Int32) < (σ 171 p1.toNatClampNeg)) (d' := 0) [.int (σ 171 p1.toNatClampNeg), .int 97, .int 122] [] dX12_isLetter_18 ok_X12_within mk_RX12_49 rfl (Nat.le_of_ble_eq_true rfl) (by first | decide | omega) (fun Φ h9 => c_X12_within (σ := σ) Φ h9) (fun c3 => ?_) (fun c3 => ?_)
    · have h := h.1 c3
      refine q_if_eq (tgt := 28) dX12_isLetter_21 (by decide) (fun c => absurd c (by decide)) (fun _ => ?_)
      refine q_iconst (v := 1) dX12_isLetter_24 (by decide) ?_
      refine q_goto (tgt := 29) dX12_isLetter_25 (by decide) ?_
      exact q_iret .boolean rfl rfl dX12_isLetter_29 h
    · have h := h.2 c3
      refine q_if_eq (tgt := 28) dX12_isLetter_21 (by decide) (fun _ => ?_) (fun c => absurd (by decide) c)
      refine q_iconst (v := 0) dX12_isLetter_28 (by decide) ?_
      exact q_iret .boolean rfl rfl dX12_isLetter_29 h

theorem c_X12_isLetter {g : vt_GT} {σ : vt_Sg} {p1 : Int32} (i0 : (p1 < (σ 168 4) → vp_in p1 132)) (Φ : Int32 → vt_Sg → Prop) (h : ((p1 < (σ 168 4) ∧ ¬ (σ 171 p1.toNatClampNeg) < 97 ∧ ¬ 122 < (σ 171 p1.toNatClampNeg)) → Φ 1 σ) ∧ (¬ (p1 < (σ 168 4) ∧ ¬ (σ 171 p1.toNatClampNeg) < 97 ∧ ¬ 122 < (σ 171 p1.toNatClampNeg)) → Φ 0 σ)) : vt_Mi g 1 D_X12_isLetter [.ref (g.2.1 168), .int p1] σ Φ :=
  mI ok_X12_isLetter.1 rfl rfl rfl (s_X12_isLetter_0 g σ _ p1 (by
    have h1 := h.1; have h2 := h.2; clear h
    refine And.intro (fun c => ?_) (fun c => ⟨i0 (Int32.not_le.mp c), ?_⟩)
    · exact ⟨_, rfl, h2 (fun q => absurd q.1 (Int32.not_lt.mpr c))⟩
    · refine And.intro (fun c2 => ⟨_, rfl, h1 ⟨Int32.not_le.mp c, c2⟩⟩) (fun c2 => ⟨_, rfl, h2 (fun q => c2 q.2)⟩)))

theorem s_X12_isDigit_0 (g : vt_GT) (σ : vt_Sg) (P : Option Value → vt_Sg → Prop) (p1 : Int32)
  (h : ((σ 168 4) ≤ p1 → P (some (.int 0)) σ) ∧ (¬ (σ 168 4) ≤ p1 → vp_in p1 132 ∧ (((¬ (σ 171 p1.toNatClampNeg) < (48 : Int32) ∧ ¬ (57 : Int32) < (σ 171 p1.toNatClampNeg)) → P (some (.int 1)) σ) ∧ (¬ (¬ (σ 171 p1.toNatClampNeg) < (48 : Int32) ∧ ¬ (57 : Int32) < (σ 171 p1.toNatClampNeg)) → P (some (.int 0)) σ)))) :
  TT g (vt_R 1) 0 0 D_X12_isDigit none 0 [some (.ref (g.2.1 168)), some (.int p1)] [] σ P := by
  refine q_iload_n dX12_isDigit_0 rfl ?_
  refine q_aload_n dX12_isDigit_1 rfl ?_
  refine q_getX (x := (σ 168 4)) dX12_isDigit_2 fF_RX12_129 fl_168_4 rfl ?_
  refine q_icmp_ge (tgt := 28) dX12_isDigit_5 (by decide) (fun c1 => ?_) (fun c1 => ?_)
  · have h := h.1 c1
    refine q_iconst (v := 0) dX12_isDigit_28 (by decide) ?_
    exact q_iret .boolean rfl rfl dX12_isDigit_29 h
  · have h := h.2 c1
    refine q_aload_n dX12_isDigit_8 rfl ?_
    refine q_getR dX12_isDigit_9 fF_RX12_16 fl_168_3 ?_
    refine q_iload_n dX12_isDigit_12 rfl ?_
    obtain ⟨hi2, h⟩ := h
    refine q_ialdX (v := (σ 171 p1.toNatClampNeg)) dX12_isDigit_13 ar_171 hi2 rfl ?_
    refine q_bipush (v := 48) dX12_isDigit_14 (by decide) ?_
    refine q_bipush (v := 57) dX12_isDigit_16 (by decide) ?_
    refine q_cSb (C := ¬ (σ 171 p1.toNatClampNeg) < (48 : Int32) ∧ ¬ (57 : Int32) < (σ 171 p1.toNatClampNeg)) (d' := 0) [.int (σ 171 p1.toNatClampNeg), .int 48, .int 57] [] dX12_isDigit_18 ok_X12_within mk_RX12_49 rfl (Nat.le_of_ble_eq_true rfl) (by first | decide | omega) (fun Φ h9 => c_X12_within (σ := σ) Φ h9) (fun c3 => ?_) (fun c3 => ?_)
    · have h := h.1 c3
      refine q_if_eq (tgt := 28) dX12_isDigit_21 (by decide) (fun c => absurd c (by decide)) (fun _ => ?_)
      refine q_iconst (v := 1) dX12_isDigit_24 (by decide) ?_
      refine q_goto (tgt := 29) dX12_isDigit_25 (by decide) ?_
      exact q_iret .boolean rfl rfl dX12_isDigit_29 h
    · have h := h.2 c3
      refine q_if_eq (tgt := 28) dX12_isDigit_21 (by decide) (fun _ => ?_) (fun c => absurd (by decide) c)
      refine q_iconst (v := 0) dX12_isDigit_28 (by decide) ?_
      exact q_iret .boolean rfl rfl dX12_isDigit_29 h

theorem c_X12_isDigit {g : vt_GT} {σ : vt_Sg} {p1 : Int32} (i0 : (p1 < (σ 168 4) → vp_in p1 132)) (Φ : Int32 → vt_Sg → Prop) (h : ((p1 < (σ 168 4) ∧ ¬ (σ 171 p1.toNatClampNeg) < 48 ∧ ¬ 57 < (σ 171 p1.toNatClampNeg)) → Φ 1 σ) ∧ (¬ (p1 < (σ 168 4) ∧ ¬ (σ 171 p1.toNatClampNeg) < 48 ∧ ¬ 57 < (σ 171 p1.toNatClampNeg)) → Φ 0 σ)) : vt_Mi g 1 D_X12_isDigit [.ref (g.2.1 168), .int p1] σ Φ :=
  mI ok_X12_isDigit.1 rfl rfl rfl (s_X12_isDigit_0 g σ _ p1 (by
    have h1 := h.1; have h2 := h.2; clear h
    refine And.intro (fun c => ?_) (fun c => ⟨i0 (Int32.not_le.mp c), ?_⟩)
    · exact ⟨_, rfl, h2 (fun q => absurd q.1 (Int32.not_lt.mpr c))⟩
    · refine And.intro (fun c2 => ⟨_, rfl, h1 ⟨Int32.not_le.mp c, c2⟩⟩) (fun c2 => ⟨_, rfl, h2 (fun q => c2 q.2)⟩)))

theorem s_X12_done_0 (g : vt_GT) (σ : vt_Sg) (P : Option Value → vt_Sg → Prop) (p1 : Int32) (p2 : Int32) (p3 : Int32)
  (h : (p1 = 0 → (¬ p2 = 0 → P (some (.int 1)) σ) ∧ (p2 = 0 → (p3 = 0 → P (some (.int 0)) σ) ∧ (¬ p3 = 0 → P (some (.int 1)) σ))) ∧ (¬ p1 = 0 → (p1 = 1 → (p2 = 0 → P (some (.int 0)) σ) ∧ (¬ p2 = 0 → (p3 = 0 → P (some (.int 0)) σ) ∧ (¬ p3 = 0 → P (some (.int 1)) σ))) ∧ (¬ p1 = 1 → (p1 = 2 → (p3 ≤ p2 → P (some (.int 0)) σ) ∧ (¬ p3 ≤ p2 → P (some (.int 1)) σ)) ∧ (¬ p1 = 2 → (p1 = 3 → (¬ p2 = p3 → P (some (.int 0)) σ) ∧ (p2 = p3 → P (some (.int 1)) σ)) ∧ (¬ p1 = 3 → (p1 = 4 → (p2 ≤ p3 → P (some (.int 0)) σ) ∧ (¬ p2 ≤ p3 → P (some (.int 1)) σ)) ∧ (¬ p1 = 4 → (p1 = 5 → P (some (.int (p2 + p3))) σ) ∧ (¬ p1 = 5 → (p1 = 6 → P (some (.int (p2 - p3))) σ) ∧ (¬ p1 = 6 → (p1 = 7 → P (some (.int (p2 * p3))) σ) ∧ (¬ p1 = 7 → (¬ p3 = 0 → P (some (.int (p2 / p3))) σ) ∧ (p3 = 0 → P (some (.int 0)) σ)))))))))) :
  TT g (vt_R 0) 0 0 D_X12_done none 0 [some (.int p1), some (.int p2), some (.int p3)] [] σ P := by
  refine q_iload_n dX12_done_0 rfl ?_
  by_cases n1_0 : p1 = 0
  · have h := h.1 n1_0
    refine q_tabE (kk := 0) n1_0 (tgt := 48) (off := 47) dX12_done_1 (by decide) (by decide) rfl (by decide) ?_
    refine q_iload_n dX12_done_48 rfl ?_
    refine q_if_ne (tgt := 56) dX12_done_49 (by decide) (fun c7 => ?_) (fun c7 => ?_)
    · have h := h.1 c7
      refine q_iconst (v := 1) dX12_done_56 (by decide) ?_
      refine q_goto (tgt := 61) dX12_done_57 (by decide) ?_
      exact q_iret .int rfl rfl dX12_done_61 h
    · have h := h.2 c7
      refine q_iload_n dX12_done_52 rfl ?_
      refine q_if_eq (tgt := 60) dX12_done_53 (by decide) (fun c8 => ?_) (fun c8 => ?_)
      · have h := h.1 c8
        refine q_iconst (v := 0) dX12_done_60 (by decide) ?_
        exact q_iret .int rfl rfl dX12_done_61 h
      · have h := h.2 c8
        refine q_iconst (v := 1) dX12_done_56 (by decide) ?_
        refine q_goto (tgt := 61) dX12_done_57 (by decide) ?_
        exact q_iret .int rfl rfl dX12_done_61 h
  · have h := h.2 n1_0
    by_cases n1_1 : p1 = 1
    · have h := h.1 n1_1
      refine q_tabE (kk := 1) n1_1 (tgt := 62) (off := 61) dX12_done_1 (by decide) (by decide) rfl (by decide) ?_
      refine q_iload_n dX12_done_62 rfl ?_
      refine q_if_eq (tgt := 74) dX12_done_63 (by decide) (fun c5 => ?_) (fun c5 => ?_)
      · have h := h.1 c5
        refine q_iconst (v := 0) dX12_done_74 (by decide) ?_
        exact q_iret .int rfl rfl dX12_done_75 h
      · have h := h.2 c5
        refine q_iload_n dX12_done_66 rfl ?_
        refine q_if_eq (tgt := 74) dX12_done_67 (by decide) (fun c6 => ?_) (fun c6 => ?_)
        · have h := h.1 c6
          refine q_iconst (v := 0) dX12_done_74 (by decide) ?_
          exact q_iret .int rfl rfl dX12_done_75 h
        · have h := h.2 c6
          refine q_iconst (v := 1) dX12_done_70 (by decide) ?_
          refine q_goto (tgt := 75) dX12_done_71 (by decide) ?_
          exact q_iret .int rfl rfl dX12_done_75 h
    · have h := h.2 n1_1
      by_cases n1_2 : p1 = 2
      · have h := h.1 n1_2
        refine q_tabE (kk := 2) n1_2 (tgt := 76) (off := 75) dX12_done_1 (by decide) (by decide) rfl (by decide) ?_
        refine q_iload_n dX12_done_76 rfl ?_
        refine q_iload_n dX12_done_77 rfl ?_
        refine q_icmp_ge (tgt := 85) dX12_done_78 (by decide) (fun c4 => ?_) (fun c4 => ?_)
        · have h := h.1 c4
          refine q_iconst (v := 0) dX12_done_85 (by decide) ?_
          exact q_iret .int rfl rfl dX12_done_86 h
        · have h := h.2 c4
          refine q_iconst (v := 1) dX12_done_81 (by decide) ?_
          refine q_goto (tgt := 86) dX12_done_82 (by decide) ?_
          exact q_iret .int rfl rfl dX12_done_86 h
      · have h := h.2 n1_2
        by_cases n1_3 : p1 = 3
        · have h := h.1 n1_3
          refine q_tabE (kk := 3) n1_3 (tgt := 87) (off := 86) dX12_done_1 (by decide) (by decide) rfl (by decide) ?_
          refine q_iload_n dX12_done_87 rfl ?_
          refine q_iload_n dX12_done_88 rfl ?_
          refine q_icmp_ne (tgt := 96) dX12_done_89 (by decide) (fun c3 => ?_) (fun c3 => ?_)
          · have h := h.1 c3
            refine q_iconst (v := 0) dX12_done_96 (by decide) ?_
            exact q_iret .int rfl rfl dX12_done_97 h
          · have h := h.2 c3
            refine q_iconst (v := 1) dX12_done_92 (by decide) ?_
            refine q_goto (tgt := 97) dX12_done_93 (by decide) ?_
            exact q_iret .int rfl rfl dX12_done_97 h
        · have h := h.2 n1_3
          by_cases n1_4 : p1 = 4
          · have h := h.1 n1_4
            refine q_tabE (kk := 4) n1_4 (tgt := 98) (off := 97) dX12_done_1 (by decide) (by decide) rfl (by decide) ?_
            refine q_iload_n dX12_done_98 rfl ?_
            refine q_iload_n dX12_done_99 rfl ?_
            refine q_icmp_le (tgt := 107) dX12_done_100 (by decide) (fun c2 => ?_) (fun c2 => ?_)
            · have h := h.1 c2
              refine q_iconst (v := 0) dX12_done_107 (by decide) ?_
              exact q_iret .int rfl rfl dX12_done_108 h
            · have h := h.2 c2
              refine q_iconst (v := 1) dX12_done_103 (by decide) ?_
              refine q_goto (tgt := 108) dX12_done_104 (by decide) ?_
              exact q_iret .int rfl rfl dX12_done_108 h
          · have h := h.2 n1_4
            by_cases n1_5 : p1 = 5
            · have h := h.1 n1_5
              refine q_tabE (kk := 5) n1_5 (tgt := 109) (off := 108) dX12_done_1 (by decide) (by decide) rfl (by decide) ?_
              refine q_iload_n dX12_done_109 rfl ?_
              refine q_iload_n dX12_done_110 rfl ?_
              refine q_iadd dX12_done_111 ?_
              exact q_iret .int rfl rfl dX12_done_112 h
            · have h := h.2 n1_5
              by_cases n1_6 : p1 = 6
              · have h := h.1 n1_6
                refine q_tabE (kk := 6) n1_6 (tgt := 113) (off := 112) dX12_done_1 (by decide) (by decide) rfl (by decide) ?_
                refine q_iload_n dX12_done_113 rfl ?_
                refine q_iload_n dX12_done_114 rfl ?_
                refine q_isub dX12_done_115 ?_
                exact q_iret .int rfl rfl dX12_done_116 h
              · have h := h.2 n1_6
                by_cases n1_7 : p1 = 7
                · have h := h.1 n1_7
                  refine q_tabE (kk := 7) n1_7 (tgt := 117) (off := 116) dX12_done_1 (by decide) (by decide) rfl (by decide) ?_
                  refine q_iload_n dX12_done_117 rfl ?_
                  refine q_iload_n dX12_done_118 rfl ?_
                  refine q_imul dX12_done_119 ?_
                  exact q_iret .int rfl rfl dX12_done_120 h
                · have h := h.2 n1_7
                  refine q_tabOut (tgt := 121) dX12_done_1 (by have z0 := lv_neT (a := 0) n1_0 (by decide); have z1 := lv_neT (a := 1) n1_1 (by decide); have z2 := lv_neT (a := 2) n1_2 (by decide); have z3 := lv_neT (a := 3) n1_3 (by decide); have z4 := lv_neT (a := 4) n1_4 (by decide); have z5 := lv_neT (a := 5) n1_5 (by decide); have z6 := lv_neT (a := 6) n1_6 (by decide); have z7 := lv_neT (a := 7) n1_7 (by decide); omega) (by decide) ?_
                  refine q_iload_n dX12_done_121 rfl ?_
                  refine q_if_ne (tgt := 129) dX12_done_122 (by decide) (fun c1 => ?_) (fun c1 => ?_)
                  · have h := h.1 c1
                    refine q_iload_n dX12_done_129 rfl ?_
                    refine q_iload_n dX12_done_130 rfl ?_
                    refine q_idiv dX12_done_131 c1 ?_
                    exact q_iret .int rfl rfl dX12_done_132 h
                  · have h := h.2 c1
                    refine q_iconst (v := 0) dX12_done_125 (by decide) ?_
                    refine q_goto (tgt := 132) dX12_done_126 (by decide) ?_
                    exact q_iret .int rfl rfl dX12_done_132 h

theorem c_X12_done {g : vt_GT} {σ : vt_Sg} {p1 p2 p3 : Int32}  (Φ : Int32 → vt_Sg → Prop) (h : Φ (dn p1 p2 p3) σ) : vt_Mi g 0 D_X12_done [.int p1, .int p2, .int p3] σ Φ :=
  mI ok_X12_done.1 rfl rfl rfl (s_X12_done_0 g σ _ p1 p2 p3 (by
    repeat' (first | refine And.intro (fun c => ?_) (fun c => ?_) | (apply And.intro; assumption))
    all_goals exact ⟨_, rfl, by first | (simp_all [dn]; done) | (simp_all [dn]; rw [if_neg (Int32.not_lt.mpr (by assumption))] at h; exact h)⟩))

