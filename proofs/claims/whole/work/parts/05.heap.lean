/-! FIELDS, ARRAYS, CALLS over the world -/
def vt_F (own : String) (index ci j : Nat) : Prop := ∃ (C : String) (T : u_T) (N : Nat), vt_cls[ci]? = some (C, T, N) ∧ j < N ∧ (∀ w ∈ u_ws C T N, w ∈ vt_tbl) ∧ Cond.fieldLink own index (T j).1 (T j).2.1 (T j).2.2.1 ∈ vt_tbl
def vt_FP (ci j : Nat) (ty : FieldType) : Prop := ∀ (C : String) (T : u_T) (N : Nat), vt_cls[ci]? = some (C, T, N) → ∃ ty0 : Nat → FieldType, (∀ k, k < N → parseFieldDescriptor (T k).2.2.1 = some (ty0 k)) ∧ (∀ a, a < N → ∀ b, b < N → a ≠ b → (T a).2.1 ≠ (T b).2.1) ∧ (T j).2.2.2 = false ∧ ty0 j = ty
def vt_fld (kc ci j : Nat) (o : Option Nat) : Prop := ∃ fl : List (Option Nat), vt_lay[kc]? = some (.inr (ci, fl)) ∧ fl[j]? = some o
def vt_ar (kc kd n : Nat) : Prop := ∃ r0 : Nat, vt_lay[kc]? = some (.inl (kd, n, r0))
def vt_ar2 (kc kd n r0 : Nat) : Prop := vt_lay[kc]? = some (.inl (kd, n, r0))
section QH
variable {g : vt_GT} {R : Room} {cl sl : Nat} {M : vt_MD} {X : vt_XT} {pc : Nat} {L L' : List (Option Value)} {st : List Value} {σ : vt_Sg} {P : Option Value → vt_Sg → Prop}
theorem q_get {index ci j kc : Nat} {o : Option Nat} {v : Value} (hd : decode M.2.1 pc = .ok (.getfield index, 3)) (hf : vt_F M.1.cls index ci j) (hk : vt_fld kc ci j o) (hv : vt_v g.2.1 (σ kc) j o = v) (k : TT g R cl sl M X (pc + 3) L (v :: st) σ P) : TT g R cl sl M X pc L (.ref (g.2.1 kc) :: st) σ P := by
  intro p e s m args below meth c H locs ls Q hC hR hP hS hL
  obtain ⟨C, T, N, f1, f2, f3, f4⟩ := hf
  obtain ⟨fl, k1, k2⟩ := hk
  subst hv
  exact va_get (D := g.2.2.2.1) (cl := vt_cls) (ws := vt_W g σ) (ci := ci) (C := C) (T := T) (N := N) hC.1 hC.2.1 hC.2.2.2.2.1 f3 hC.2.2.2.1 hC.2.2.2.2.2.1.1 hP kc (fs := vt_fl g.2.1 (σ kc) fl) (vt_W_at k1) f1 j f2 (hC.2.2.2.2.1 _ f4) (fun _ h => h) (vt_fl_at k2) hd (k p e s m args below meth c H locs ls Q hC hR hP hS hL)
theorem q_getI {index ci j kc : Nat} (hd : decode M.2.1 pc = .ok (.getfield index, 3)) (hf : vt_F M.1.cls index ci j) (hk : vt_fld kc ci j none) (k : TT g R cl sl M X (pc + 3) L (.int (σ kc j) :: st) σ P) : TT g R cl sl M X pc L (.ref (g.2.1 kc) :: st) σ P := q_get hd hf hk rfl k
theorem q_getR {index ci j kc r : Nat} (hd : decode M.2.1 pc = .ok (.getfield index, 3)) (hf : vt_F M.1.cls index ci j) (hk : vt_fld kc ci j (some r)) (k : TT g R cl sl M X (pc + 3) L (.ref (g.2.1 r) :: st) σ P) : TT g R cl sl M X pc L (.ref (g.2.1 kc) :: st) σ P := q_get hd hf hk rfl k
theorem q_put {index ci j kc : Nat} (ty : FieldType) {x : Int32} (hd : decode M.2.1 pc = .ok (.putfield index, 3)) (hf : vt_F M.1.cls index ci j) (hp : vt_FP ci j ty) (hk : vt_fld kc ci j none) (hn : narrow ty (.int x) = .int x) (hft : fits ty (.int x) = true) (k : TT g R cl sl M X (pc + 3) L st (su σ kc (upd (σ kc) j x)) P) : TT g R cl sl M X pc L (.int x :: .ref (g.2.1 kc) :: st) σ P := by
  intro p e s m args below meth c H locs ls Q hC hR hP hS hL
  obtain ⟨C, T, N, f1, f2, f3, f4⟩ := hf
  obtain ⟨fl, k1, k2⟩ := hk
  obtain ⟨ty0, p1, p2, p3, p4⟩ := hp C T N f1
  have hfl : j < fl.length := (List.getElem?_eq_some_iff.mp k2).1
  refine va_put (D := g.2.2.2.1) (cl := vt_cls) (ws := vt_W g σ) (ci := ci) (C := C) (T := T) (N := N) (ty := ty) (v := .int x) hC.1 hC.2.1 hC.2.2.2.2.1 f3 ty0 p1 p2 hC.2.2.2.1 hC.2.2.2.2.2.1.1 hP (vt_D hC.2.2.2.2.2.1.2.1 σ) hS kc (fs := vt_fl g.2.1 (σ kc) fl) (vt_W_at k1) f1 j f2 (hC.2.2.2.2.1 _ f4) (fun _ h => h) p3 (by rw [p1 j f2, p4]) hn hft (by unfold vt_fl; rw [List.length_mapIdx]; exact hfl) hd (fun H1 locs1 hP1 hD1 hS1 => ?_)
  have e1 : (vt_W g σ).set kc (g.2.1 kc, .inr (ci, (vt_fl g.2.1 (σ kc) fl).set j (.int x))) = vt_W g (su σ kc (upd (σ kc) j x)) := vt_W_set k1 (by simp only [vt_E, su_same]; rw [vt_fl_set k2])
  rw [e1] at hP1
  exact k p e s m args below meth c H1 locs1 ls Q hC hR hP1 hS1 hL
theorem q_putI {index ci j kc : Nat} {x : Int32} (hd : decode M.2.1 pc = .ok (.putfield index, 3)) (hf : vt_F M.1.cls index ci j) (hp : vt_FP ci j .int) (hk : vt_fld kc ci j none) (k : TT g R cl sl M X (pc + 3) L st (su σ kc (upd (σ kc) j x)) P) : TT g R cl sl M X pc L (.int x :: .ref (g.2.1 kc) :: st) σ P := q_put .int hd hf hp hk rfl rfl k
theorem vt_z01 {x : Int32} (h : x = 0 ∨ x = 1) : narrow .boolean (.int x) = .int x ∧ fits .boolean (.int x) = true := by
  rcases h with rfl | rfl <;> exact ⟨rfl, rfl⟩
theorem q_putZ {index ci j kc : Nat} {x : Int32} (hd : decode M.2.1 pc = .ok (.putfield index, 3)) (hf : vt_F M.1.cls index ci j) (hp : vt_FP ci j .boolean) (hk : vt_fld kc ci j none) (hz : x = 0 ∨ x = 1) (k : TT g R cl sl M X (pc + 3) L st (su σ kc (upd (σ kc) j x)) P) : TT g R cl sl M X pc L (.int x :: .ref (g.2.1 kc) :: st) σ P := q_put .boolean hd hf hp hk (vt_z01 hz).1 (vt_z01 hz).2 k
theorem vt_E_ar {kc kd n r0 : Nat} (h : kd < 4) : vt_E g σ kc (.inl (kd, n, r0)) = .inl (g.2.2.1 kd, n, .inl (σ kc)) := by simp only [vt_E]; rw [if_pos h]
theorem vt_W_ar {kc kd n r0 : Nat} (hk : vt_lay[kc]? = some (.inl (kd, n, r0))) (h : kd < 4) : (vt_W g σ)[kc]? = some (g.2.1 kc, .inl (g.2.2.1 kd, n, .inl (σ kc))) := by rw [vt_W_at hk, vt_E_ar h]
theorem vt_W_sa {kc kd n r0 : Nat} (hk : vt_lay[kc]? = some (.inl (kd, n, r0))) (h : kd < 4) (f : Nat → Int32) : (vt_W g σ).set kc (g.2.1 kc, .inl (g.2.2.1 kd, n, .inl f)) = vt_W g (su σ kc f) := vt_W_set hk (by rw [vt_E_ar h, su_same])
theorem q_iald {kc n : Nat} {i : Int32} (hd : decode M.2.1 pc = .ok (.iaload, 1)) (hk : vt_ar kc 0 n) (hin : vp_in i n) (k : TT g R cl sl M X (pc + 1) L (.int (σ kc i.toNatClampNeg) :: st) σ P) : TT g R cl sl M X pc L (.int i :: .ref (g.2.1 kc) :: st) σ P := by
  intro p e s m args below meth c H locs ls Q hC hR hP hS hL
  obtain ⟨r0, hk⟩ := hk
  exact va_iald (tys := vt_tys g) hC.1 hC.2.1 hC.2.2.2.2.2.1.1 hP kc 0 (vt_W_ar hk (by decide)) rfl hin hd (k p e s m args below meth c H locs ls Q hC hR hP hS hL)
theorem q_bald {kc n : Nat} {i : Int32} (hd : decode M.2.1 pc = .ok (.baload, 1)) (hk : vt_ar kc 1 n) (hin : vp_in i n) (k : TT g R cl sl M X (pc + 1) L (.int (σ kc i.toNatClampNeg) :: st) σ P) : TT g R cl sl M X pc L (.int i :: .ref (g.2.1 kc) :: st) σ P := by
  intro p e s m args below meth c H locs ls Q hC hR hP hS hL
  obtain ⟨r0, hk⟩ := hk
  exact va_bald (tys := vt_tys g) hC.1 hC.2.1 hC.2.2.2.2.2.1.1 hP kc 1 (vt_W_ar hk (by decide)) rfl hin hd (k p e s m args below meth c H locs ls Q hC hR hP hS hL)
theorem q_sald {kc n : Nat} {i : Int32} (hd : decode M.2.1 pc = .ok (.saload, 1)) (hk : vt_ar kc 2 n) (hin : vp_in i n) (k : TT g R cl sl M X (pc + 1) L (.int (σ kc i.toNatClampNeg) :: st) σ P) : TT g R cl sl M X pc L (.int i :: .ref (g.2.1 kc) :: st) σ P := by
  intro p e s m args below meth c H locs ls Q hC hR hP hS hL
  obtain ⟨r0, hk⟩ := hk
  exact va_sald (tys := vt_tys g) hC.1 hC.2.1 hC.2.2.2.2.2.1.1 hP kc 2 (vt_W_ar hk (by decide)) rfl hin hd (k p e s m args below meth c H locs ls Q hC hR hP hS hL)
theorem q_zald {kc n : Nat} {i : Int32} (hd : decode M.2.1 pc = .ok (.baload, 1)) (hk : vt_ar kc 3 n) (hin : vp_in i n) (k : TT g R cl sl M X (pc + 1) L (.int (σ kc i.toNatClampNeg) :: st) σ P) : TT g R cl sl M X pc L (.int i :: .ref (g.2.1 kc) :: st) σ P := by
  intro p e s m args below meth c H locs ls Q hC hR hP hS hL
  obtain ⟨r0, hk⟩ := hk
  exact va_zald (tys := vt_tys g) hC.1 hC.2.1 hC.2.2.2.2.2.1.1 hP kc 3 (vt_W_ar hk (by decide)) rfl hin hd (k p e s m args below meth c H locs ls Q hC hR hP hS hL)
theorem q_iast {kc n : Nat} {i x : Int32} (hd : decode M.2.1 pc = .ok (.iastore, 1)) (hk : vt_ar kc 0 n) (hin : vp_in i n) (k : TT g R cl sl M X (pc + 1) L st (su σ kc (upd (σ kc) i.toNatClampNeg x)) P) : TT g R cl sl M X pc L (.int x :: .int i :: .ref (g.2.1 kc) :: st) σ P := by
  intro p e s m args below meth c H locs ls Q hC hR hP hS hL
  obtain ⟨r0, hk⟩ := hk
  refine va_iast (tys := vt_tys g) hC.1 hC.2.1 hC.2.2.2.2.2.1.1 hP (vt_D hC.2.2.2.2.2.1.2.1 σ) hS kc 0 (vt_W_ar hk (by decide)) rfl hin hd (fun H1 locs1 hP1 hD1 hS1 => ?_)
  rw [vt_W_sa hk (by decide)] at hP1
  exact k p e s m args below meth c H1 locs1 ls Q hC hR hP1 hS1 hL
theorem q_bast {kc n : Nat} {i x : Int32} (hd : decode M.2.1 pc = .ok (.bastore, 1)) (hk : vt_ar kc 1 n) (hin : vp_in i n) (k : TT g R cl sl M X (pc + 1) L st (su σ kc (upd (σ kc) i.toNatClampNeg (vp_nar .byte x))) P) : TT g R cl sl M X pc L (.int x :: .int i :: .ref (g.2.1 kc) :: st) σ P := by
  intro p e s m args below meth c H locs ls Q hC hR hP hS hL
  obtain ⟨r0, hk⟩ := hk
  refine va_bast (tys := vt_tys g) hC.1 hC.2.1 hC.2.2.2.2.2.1.1 hP (vt_D hC.2.2.2.2.2.1.2.1 σ) hS kc 1 (vt_W_ar hk (by decide)) rfl hin hd (fun H1 locs1 hP1 hD1 hS1 => ?_)
  rw [vt_W_sa hk (by decide)] at hP1
  exact k p e s m args below meth c H1 locs1 ls Q hC hR hP1 hS1 hL
theorem q_sast {kc n : Nat} {i x : Int32} (hd : decode M.2.1 pc = .ok (.sastore, 1)) (hk : vt_ar kc 2 n) (hin : vp_in i n) (k : TT g R cl sl M X (pc + 1) L st (su σ kc (upd (σ kc) i.toNatClampNeg (vp_nar .short x))) P) : TT g R cl sl M X pc L (.int x :: .int i :: .ref (g.2.1 kc) :: st) σ P := by
  intro p e s m args below meth c H locs ls Q hC hR hP hS hL
  obtain ⟨r0, hk⟩ := hk
  refine va_sast (tys := vt_tys g) hC.1 hC.2.1 hC.2.2.2.2.2.1.1 hP (vt_D hC.2.2.2.2.2.1.2.1 σ) hS kc 2 (vt_W_ar hk (by decide)) rfl hin hd (fun H1 locs1 hP1 hD1 hS1 => ?_)
  rw [vt_W_sa hk (by decide)] at hP1
  exact k p e s m args below meth c H1 locs1 ls Q hC hR hP1 hS1 hL
theorem q_zast {kc n : Nat} {i x : Int32} (hd : decode M.2.1 pc = .ok (.bastore, 1)) (hk : vt_ar kc 3 n) (hin : vp_in i n) (k : TT g R cl sl M X (pc + 1) L st (su σ kc (upd (σ kc) i.toNatClampNeg (vp_nar .boolean x))) P) : TT g R cl sl M X pc L (.int x :: .int i :: .ref (g.2.1 kc) :: st) σ P := by
  intro p e s m args below meth c H locs ls Q hC hR hP hS hL
  obtain ⟨r0, hk⟩ := hk
  refine va_zast (tys := vt_tys g) hC.1 hC.2.1 hC.2.2.2.2.2.1.1 hP (vt_D hC.2.2.2.2.2.1.2.1 σ) hS kc 3 (vt_W_ar hk (by decide)) rfl hin hd (fun H1 locs1 hP1 hD1 hS1 => ?_)
  rw [vt_W_sa hk (by decide)] at hP1
  exact k p e s m args below meth c H1 locs1 ls Q hC hR hP1 hS1 hL
theorem vt_ty_at {kd : Nat} (h : kd < 6) : ∃ ty : FieldType, (vt_tys g)[kd]? = some (g.2.2.1 kd, ty) := by
  match kd, h with
  | 0, _ => exact ⟨_, rfl⟩
  | 1, _ => exact ⟨_, rfl⟩
  | 2, _ => exact ⟨_, rfl⟩
  | 3, _ => exact ⟨_, rfl⟩
  | 4, _ => exact ⟨_, rfl⟩
  | 5, _ => exact ⟨_, rfl⟩
theorem q_alen {kc kd n : Nat} {v : Int32} (hd : decode M.2.1 pc = .ok (.arraylength, 1)) (hk : vt_ar kc kd n) (h4 : kd < 4) (hv : Int32.ofNat n = v) (k : TT g R cl sl M X (pc + 1) L (.int v :: st) σ P) : TT g R cl sl M X pc L (.ref (g.2.1 kc) :: st) σ P := by
  intro p e s m args below meth c H locs ls Q hC hR hP hS hL
  obtain ⟨r0, hk⟩ := hk
  obtain ⟨ty, ht⟩ := vt_ty_at (g := g) (kd := kd) (by omega)
  exact va_alen (tys := vt_tys g) hC.1 hC.2.1 hC.2.2.2.2.2.1.1 hP kc kd (vt_W_ar hk h4) ht hv hd (k p e s m args below meth c H locs ls Q hC hR hP hS hL)
theorem q_aald {kc kd n r0 : Nat} {i : Int32} (hd : decode M.2.1 pc = .ok (.aaload, 1)) (hk : vt_ar2 kc kd n r0) (hkd : kd = 4 ∨ kd = 5) (hin : vp_in i n) (k : TT g R cl sl M X (pc + 1) L (.ref (g.2.1 (r0 + i.toNatClampNeg)) :: st) σ P) : TT g R cl sl M X pc L (.int i :: .ref (g.2.1 kc) :: st) σ P := by
  intro p e s m args below meth c H locs ls Q hC hR hP hS hL
  have hlt : i.toNatClampNeg < n := Nat.not_le.mp fun q => hin (Or.inr q)
  have hcell : H[g.2.1 kc]? = some (vp_cell (g.2.2.1 kd) (n, .inr (.inr (.inr (.inr (fun j => if j < n then some (g.2.1 (r0 + j)) else none)))))) := by
    have h := hP kc _ (vt_W_at (g := g) (σ := σ) hk)
    have e1 : vt_E g σ kc (.inl (kd, n, r0)) = .inl (g.2.2.1 kd, n, .inr (.inr (.inr (.inr (fun j => if j < n then some (g.2.1 (r0 + j)) else none))))) := by simp only [vt_E]; rw [if_neg (by omega)]
    rw [e1] at h
    exact h
  have hty : ∃ ty : FieldType, ty.isReference = true ∧ (vt_tys g)[kd]? = some (g.2.2.1 kd, ty) := by
    rcases hkd with rfl | rfl
    · exact ⟨.array .int, rfl, rfl⟩
    · exact ⟨.array .short, rfl, rfl⟩
  obtain ⟨ty, t1, t2⟩ := hty
  refine W.aald (v := .ref (g.2.1 (r0 + i.toNatClampNeg))) (ty := ty) hC.1 hC.2.1 hcell ((hC.2.2.2.2.2.1.1.2 kd _ t2).1 n (fun j => va_rf (if j < n then some (g.2.1 (r0 + j)) else none))) t1 (fun q => by cases q) (by show ¬ (i < 0 ∨ (arrV _ _ _).slots.size ≤ _); rw [arrV_size]; exact hin) ?_ rfl rfl hd (k p e s m args below meth c H locs ls Q hC hR hP hS hL)
  show (arrV _ _ _).slots[_]? = _
  rw [arrV_read _ _ hlt]
  show some (va_rf (if i.toNatClampNeg < n then some (g.2.1 (r0 + i.toNatClampNeg)) else none)) = _
  rw [if_pos hlt]
  rfl
/-! strings, the script, statics -/
theorem q_getK {index i : Nat} {q : String × Nat × String × List Int32} (hd : decode M.2.1 pc = .ok (.getfield index, 3)) (hf : Cond.fieldLink M.1.cls index "java/lang/String" "coder" "B" ∈ vt_tbl) (hi : vt_strs[i]? = some q) (k : TT g R cl sl M X (pc + 3) L (.int 0 :: st) σ P) : TT g R cl sl M X pc L (.ref (g.2.2.2.2.1 i) :: st) σ P := by
  intro p e s m args below meth c H locs ls Q hC hR hP hS hL
  exact vk_getf hC.1 hC.2.1 (hC.2.2.2.2.2.1.2.2.1 i q hi).2.1 hS hC.2.2.2.1 (hC.2.2.2.2.1 _ hf) (fun _ h => h) hd (k p e s m args below meth c H locs ls Q hC hR hP hS hL)
theorem q_getV {index i : Nat} {q : String × Nat × String × List Int32} (hd : decode M.2.1 pc = .ok (.getfield index, 3)) (hf : Cond.fieldLink M.1.cls index "java/lang/String" "value" "[B" ∈ vt_tbl) (hi : vt_strs[i]? = some q) (k : TT g R cl sl M X (pc + 3) L (.ref (g.2.2.2.2.2 i) :: st) σ P) : TT g R cl sl M X pc L (.ref (g.2.2.2.2.1 i) :: st) σ P := by
  intro p e s m args below meth c H locs ls Q hC hR hP hS hL
  exact vk_getf hC.1 hC.2.1 (hC.2.2.2.2.2.1.2.2.1 i q hi).2.2.1 hS hC.2.2.2.1 (hC.2.2.2.2.1 _ hf) (fun _ h => h) hd (k p e s m args below meth c H locs ls Q hC hR hP hS hL)
theorem q_slen {i : Nat} {v : Int32} {q : String × Nat × String × List Int32} (hd : decode M.2.1 pc = .ok (.arraylength, 1)) (hi : vt_strs[i]? = some q) (hv : Int32.ofNat q.2.2.2.length = v) (k : TT g R cl sl M X (pc + 1) L (.int v :: st) σ P) : TT g R cl sl M X pc L (.ref (g.2.2.2.2.2 i) :: st) σ P := by
  intro p e s m args below meth c H locs ls Q hC hR hP hS hL
  exact va_tlen hC.1 hC.2.1 (hC.2.2.2.2.2.1.2.2.1 i q hi).2.2.2 hS hv hd (k p e s m args below meth c H locs ls Q hC hR hP hS hL)
theorem q_sbald {i : Nat} {x : Int32} {q : String × Nat × String × List Int32} (hd : decode M.2.1 pc = .ok (.baload, 1)) (hi : vt_strs[i]? = some q) (hin : vp_in x q.2.2.2.length) (k : TT g R cl sl M X (pc + 1) L (.int (q.2.2.2.getD x.toNatClampNeg 0) :: st) σ P) : TT g R cl sl M X pc L (.int x :: .ref (g.2.2.2.2.2 i) :: st) σ P := by
  intro p e s m args below meth c H locs ls Q hC hR hP hS hL
  exact va_tb hC.1 hC.2.1 (hC.2.2.2.2.2.1.2.2.1 i q hi).2.2.2 hS hin rfl hd (k p e s m args below meth c H locs ls Q hC hR hP hS hL)
theorem q_compact {index : Nat} (hd : decode M.2.1 pc = .ok (.getstatic index, 3)) (hf : Cond.fieldLink M.1.cls index "java/lang/String" "COMPACT_STRINGS" "Z" ∈ vt_tbl) (k : TT g R cl sl M X (pc + 3) L (.int 1 :: st) σ P) : TT g R cl sl M X pc L st σ P := by
  intro p e s m args below meth c H locs ls Q hC hR hP hS hL
  exact va_gets hC.1 hC.2.1 hC.2.2.2.2.2.1.2.2.2.2.1 hS hC.2.2.2.1 (hC.2.2.2.2.1 _ hf) (fun _ h => h) hd (k p e s m args below meth c H locs ls Q hC hR hP hS hL)
theorem q_former {index : Nat} (hd : decode M.2.1 pc = .ok (.getstatic index, 3)) (hf : Cond.fieldLink M.1.cls index "jdk/internal/util/Preconditions" "SIOOBE_FORMATTER" "Ljava/util/function/BiFunction;" ∈ vt_tbl) (k0 : TT g R cl sl M X (pc + 3) L (.null :: st) σ P) (k : ∀ q : Nat, TT g R cl sl M X (pc + 3) L (.ref q :: st) σ P) : TT g R cl sl M X pc L st σ P := by
  intro p e s m args below meth c H locs ls Q hC hR hP hS hL
  rcases hC.2.2.2.2.2.1.2.2.2.2.2 with hq | ⟨q, hq⟩
  · exact va_gets hC.1 hC.2.1 hq hS hC.2.2.2.1 (hC.2.2.2.2.1 _ hf) (fun _ h => h) hd (k0 p e s m args below meth c H locs ls Q hC hR hP hS hL)
  · exact va_gets hC.1 hC.2.1 hq hS hC.2.2.2.1 (hC.2.2.2.2.1 _ hf) (fun _ h => h) hd (k q p e s m args below meth c H locs ls Q hC hR hP hS hL)
theorem q_xald {b N : Nat} {xs : Nat → Int32} {i : Int32} (hX : X = some (b, N, xs)) (hd : decode M.2.1 pc = .ok (.iaload, 1)) (hin : vp_in i N) (k : TT g R cl sl M X (pc + 1) L (.int (xs i.toNatClampNeg) :: st) σ P) : TT g R cl sl M X pc L (.int i :: .ref b :: st) σ P := by
  intro p e s m args below meth c H locs ls Q hC hR hP hS hL
  obtain ⟨h1, h2, h3⟩ := hC.2.2.2.2.2.2 b N xs hX
  exact va_sld hC.1 hC.2.1 h1 h2 h3 hS hin hd (k p e s m args below meth c H locs ls Q hC hR hP hS hL)
theorem q_xlen {b N : Nat} {xs : Nat → Int32} (hX : X = some (b, N, xs)) (hd : decode M.2.1 pc = .ok (.arraylength, 1)) (k : TT g R cl sl M X (pc + 1) L (.int (Int32.ofNat N) :: st) σ P) : TT g R cl sl M X pc L (.ref b :: st) σ P := by
  intro p e s m args below meth c H locs ls Q hC hR hP hS hL
  obtain ⟨h1, h2, h3⟩ := hC.2.2.2.2.2.2 b N xs hX
  exact va_slen hC.1 hC.2.1 h1 h2 h3 hS hd (k p e s m args below meth c H locs ls Q hC hR hP hS hL)
end QH
