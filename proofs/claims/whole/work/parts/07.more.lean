/-! the same rows with the new value named, and contracts by kind of answer -/
def vt_Mi (g : vt_GT) (d : Nat) (D : vt_MD) (As : List Value) (σ : vt_Sg) (Φ : Int32 → vt_Sg → Prop) : Prop := vt_M g d D As σ (fun v σ' => ∃ r : Int32, v = some (.int r) ∧ Φ r σ')
def vt_Mv (g : vt_GT) (d : Nat) (D : vt_MD) (As : List Value) (σ : vt_Sg) (Φ : vt_Sg → Prop) : Prop := vt_M g d D As σ (fun v σ' => v = none ∧ Φ σ')
theorem vt_Mi.mono {g : vt_GT} {d : Nat} {D : vt_MD} {As : List Value} {σ : vt_Sg} {Φ Ψ : Int32 → vt_Sg → Prop} (h : vt_Mi g d D As σ Φ) (hh : ∀ r σ', Φ r σ' → Ψ r σ') : vt_Mi g d D As σ Ψ := vt_M.mono h (fun _ σ' ⟨r, e, q⟩ => ⟨r, e, hh r σ' q⟩)
theorem vt_Mv.mono {g : vt_GT} {d : Nat} {D : vt_MD} {As : List Value} {σ : vt_Sg} {Φ Ψ : vt_Sg → Prop} (h : vt_Mv g d D As σ Φ) (hh : ∀ σ', Φ σ' → Ψ σ') : vt_Mv g d D As σ Ψ := vt_M.mono h (fun _ σ' ⟨e, q⟩ => ⟨e, hh σ' q⟩)
section QX
variable {g : vt_GT} {R : Room} {cl sl : Nat} {M : vt_MD} {X : vt_XT} {pc : Nat} {L L' : List (Option Value)} {st : List Value} {σ : vt_Sg} {P : Option Value → vt_Sg → Prop}
theorem q_getX {index ci j kc : Nat} {x : Int32} (hd : decode M.2.1 pc = .ok (.getfield index, 3)) (hf : vt_F M.1.cls index ci j) (hk : vt_fld kc ci j none) (hx : σ kc j = x) (k : TT g R cl sl M X (pc + 3) L (.int x :: st) σ P) : TT g R cl sl M X pc L (.ref (g.2.1 kc) :: st) σ P := q_getI hd hf hk (hx ▸ k)
theorem q_putX {index ci j kc : Nat} {x : Int32} {F : Nat → Int32} (hd : decode M.2.1 pc = .ok (.putfield index, 3)) (hf : vt_F M.1.cls index ci j) (hp : vt_FP ci j .int) (hk : vt_fld kc ci j none) (hF : upd (σ kc) j x = F) (k : TT g R cl sl M X (pc + 3) L st (su σ kc F) P) : TT g R cl sl M X pc L (.int x :: .ref (g.2.1 kc) :: st) σ P := q_putI hd hf hp hk (hF ▸ k)
theorem q_putXZ {index ci j kc : Nat} {x : Int32} {F : Nat → Int32} (hd : decode M.2.1 pc = .ok (.putfield index, 3)) (hf : vt_F M.1.cls index ci j) (hp : vt_FP ci j .boolean) (hk : vt_fld kc ci j none) (hz : x = 0 ∨ x = 1) (hF : upd (σ kc) j x = F) (k : TT g R cl sl M X (pc + 3) L st (su σ kc F) P) : TT g R cl sl M X pc L (.int x :: .ref (g.2.1 kc) :: st) σ P := q_putZ hd hf hp hk hz (hF ▸ k)
theorem q_ialdX {kc n : Nat} {i v : Int32} (hd : decode M.2.1 pc = .ok (.iaload, 1)) (hk : vt_ar kc 0 n) (hin : vp_in i n) (hv : σ kc i.toNatClampNeg = v) (k : TT g R cl sl M X (pc + 1) L (.int v :: st) σ P) : TT g R cl sl M X pc L (.int i :: .ref (g.2.1 kc) :: st) σ P := q_iald hd hk hin (hv ▸ k)
theorem q_baldX {kc n : Nat} {i v : Int32} (hd : decode M.2.1 pc = .ok (.baload, 1)) (hk : vt_ar kc 1 n) (hin : vp_in i n) (hv : σ kc i.toNatClampNeg = v) (k : TT g R cl sl M X (pc + 1) L (.int v :: st) σ P) : TT g R cl sl M X pc L (.int i :: .ref (g.2.1 kc) :: st) σ P := q_bald hd hk hin (hv ▸ k)
theorem q_saldX {kc n : Nat} {i v : Int32} (hd : decode M.2.1 pc = .ok (.saload, 1)) (hk : vt_ar kc 2 n) (hin : vp_in i n) (hv : σ kc i.toNatClampNeg = v) (k : TT g R cl sl M X (pc + 1) L (.int v :: st) σ P) : TT g R cl sl M X pc L (.int i :: .ref (g.2.1 kc) :: st) σ P := q_sald hd hk hin (hv ▸ k)
theorem q_zaldX {kc n : Nat} {i v : Int32} (hd : decode M.2.1 pc = .ok (.baload, 1)) (hk : vt_ar kc 3 n) (hin : vp_in i n) (hv : σ kc i.toNatClampNeg = v) (k : TT g R cl sl M X (pc + 1) L (.int v :: st) σ P) : TT g R cl sl M X pc L (.int i :: .ref (g.2.1 kc) :: st) σ P := q_zald hd hk hin (hv ▸ k)
theorem q_iastX {kc n : Nat} {i x : Int32} {F : Nat → Int32} (hd : decode M.2.1 pc = .ok (.iastore, 1)) (hk : vt_ar kc 0 n) (hin : vp_in i n) (hF : upd (σ kc) i.toNatClampNeg x = F) (k : TT g R cl sl M X (pc + 1) L st (su σ kc F) P) : TT g R cl sl M X pc L (.int x :: .int i :: .ref (g.2.1 kc) :: st) σ P := q_iast hd hk hin (hF ▸ k)
theorem q_bastX {kc n : Nat} {i x : Int32} {F : Nat → Int32} (hd : decode M.2.1 pc = .ok (.bastore, 1)) (hk : vt_ar kc 1 n) (hin : vp_in i n) (hF : upd (σ kc) i.toNatClampNeg (vp_nar .byte x) = F) (k : TT g R cl sl M X (pc + 1) L st (su σ kc F) P) : TT g R cl sl M X pc L (.int x :: .int i :: .ref (g.2.1 kc) :: st) σ P := q_bast hd hk hin (hF ▸ k)
theorem q_sastX {kc n : Nat} {i x : Int32} {F : Nat → Int32} (hd : decode M.2.1 pc = .ok (.sastore, 1)) (hk : vt_ar kc 2 n) (hin : vp_in i n) (hF : upd (σ kc) i.toNatClampNeg (vp_nar .short x) = F) (k : TT g R cl sl M X (pc + 1) L st (su σ kc F) P) : TT g R cl sl M X pc L (.int x :: .int i :: .ref (g.2.1 kc) :: st) σ P := q_sast hd hk hin (hF ▸ k)
theorem q_zastX {kc n : Nat} {i x : Int32} {F : Nat → Int32} (hd : decode M.2.1 pc = .ok (.bastore, 1)) (hk : vt_ar kc 3 n) (hin : vp_in i n) (hF : upd (σ kc) i.toNatClampNeg (vp_nar .boolean x) = F) (k : TT g R cl sl M X (pc + 1) L st (su σ kc F) P) : TT g R cl sl M X pc L (.int x :: .int i :: .ref (g.2.1 kc) :: st) σ P := q_zast hd hk hin (hF ▸ k)
theorem q_copyX {d index k0 k1 kd n0 n1 : Nat} {sp dp n : Int32} {F : Nat → Int32} (hd : decode M.2.1 pc = .ok (.invokestatic index, 3)) (hl : Cond.methodLink M.1.cls index arraycopyName ∈ vt_tbl) (hnat : Cond.native arraycopyName ∈ vt_tbl) (hstat : Cond.static arraycopyName ∈ vt_tbl) (hini : Cond.initialized "java/lang/System" ∈ vt_tbl)
    (hk0 : vt_ar k0 kd n0) (hk1 : vt_ar k1 kd n1) (hkd : kd = 0 ∨ kd = 2) (h1 : ¬ sp < 0) (h2 : ¬ dp < 0) (h3 : ¬ n < 0) (h4 : sp.toNatClampNeg + n.toNatClampNeg ≤ n0) (h5 : dp.toNatClampNeg + n.toNatClampNeg ≤ n1) (hfit : kd = 2 → ∀ i, i < n.toNatClampNeg → fits .short (.int (σ k0 (sp.toNatClampNeg + i))) = true)
    (hro : 1 ≤ d) (hF : va_cpy (σ k0) (σ k1) sp.toNatClampNeg dp.toNatClampNeg n.toNatClampNeg = F) (k : TT g (vt_R d) 0 0 M X (pc + 3) L [] (su σ k1 F) P) : TT g (vt_R d) 0 0 M X pc L [.int n, .int dp, .ref (g.2.1 k1), .int sp, .ref (g.2.1 k0)] σ P := q_copy hd hl hnat hstat hini hk0 hk1 hkd h1 h2 h3 h4 h5 hfit hro (hF ▸ k)
theorem q_tabE {dflt lo hi : Int} {offs : Array Int} {len : Nat} {x kk : Int32} {off : Int} {tgt : Nat} (hx : x = kk) (hd : decode M.2.1 pc = .ok (.tableswitch dflt lo hi offs, len)) (h1 : ¬ kk.toInt < lo) (h2 : ¬ hi < kk.toInt) (ho : offs[(kk.toInt - lo).toNat]? = some off) (ht : (pc : Int) + off = (tgt : Int)) (k : TT g R cl sl M X tgt L st σ P) : TT g R cl sl M X pc L (.int x :: st) σ P := by
  subst hx
  exact q_tabIn hd h1 h2 ho ht k
theorem q_aaldX {kc kd n r0 kr : Nat} {i : Int32} (hd : decode M.2.1 pc = .ok (.aaload, 1)) (hk : vt_ar2 kc kd n r0) (hkd : kd = 4 ∨ kd = 5) (hin : vp_in i n) (hr : r0 + i.toNatClampNeg = kr) (k : TT g R cl sl M X (pc + 1) L (.ref (g.2.1 kr) :: st) σ P) : TT g R cl sl M X pc L (.int i :: .ref (g.2.1 kc) :: st) σ P := q_aald hd hk hkd hin (hr ▸ k)
end QX
section QM
variable {g : vt_GT} {d : Nat} {M : vt_MD} {X : vt_XT} {pc : Nat} {L L' : List (Option Value)} {st : List Value} {σ : vt_Sg} {P : Option Value → vt_Sg → Prop}
theorem q_max {x y : Int32} {index : Nat} (hd : decode M.2.1 pc = .ok (.invokestatic index, 3)) (hl : Cond.methodLink M.1.cls index Lib.Math.max.name ∈ vt_tbl) (hstat : Cond.static Lib.Math.max.name ∈ vt_tbl) (hini : Cond.initialized "java/lang/Math" ∈ vt_tbl) (hcode : Cond.code Lib.Math.max.name Lib.Math.max.code 2 (some .int) ∈ vt_tbl) (hcat : (st.map fun v => v.category).sum ≤ 8) (hro : 1 ≤ d) (k : TT g (vt_R d) 0 0 M X (pc + 3) L (.int (if x < y then y else x) :: st) σ P) : TT g (vt_R d) 0 0 M X pc L (.int y :: .int x :: st) σ P := by
  intro p e s m args below meth c H locs ls Q hC hR hP hS hL
  exact va_mmax (R := vt_R d) hC.1 hC.2.1 (by rw [hC.2.2.1, hL.1]) hC.2.2.2.1 (hC.2.2.2.2.1 _ hl) (hC.2.2.2.2.1 _ hstat) (hC.2.2.2.2.1 _ hini) (hC.2.2.2.2.1 _ hcode) hro (by show _ ≤ 48 * d; omega) (Nat.le_refl _) (Nat.le_refl _) hd (k p e s m args below meth c H locs ls Q hC hR hP hS hL)
theorem q_min {x y : Int32} {index : Nat} (hd : decode M.2.1 pc = .ok (.invokestatic index, 3)) (hl : Cond.methodLink M.1.cls index Lib.Math.min.name ∈ vt_tbl) (hstat : Cond.static Lib.Math.min.name ∈ vt_tbl) (hini : Cond.initialized "java/lang/Math" ∈ vt_tbl) (hcode : Cond.code Lib.Math.min.name Lib.Math.min.code 2 (some .int) ∈ vt_tbl) (hcat : (st.map fun v => v.category).sum ≤ 8) (hro : 1 ≤ d) (k : TT g (vt_R d) 0 0 M X (pc + 3) L (.int (if y < x then y else x) :: st) σ P) : TT g (vt_R d) 0 0 M X pc L (.int y :: .int x :: st) σ P := by
  intro p e s m args below meth c H locs ls Q hC hR hP hS hL
  exact va_mmin (R := vt_R d) hC.1 hC.2.1 (by rw [hC.2.2.1, hL.1]) hC.2.2.2.1 (hC.2.2.2.2.1 _ hl) (hC.2.2.2.2.1 _ hstat) (hC.2.2.2.2.1 _ hini) (hC.2.2.2.2.1 _ hcode) hro (by show _ ≤ 48 * d; omega) (Nat.le_refl _) (Nat.le_refl _) hd (k p e s m args below meth c H locs ls Q hC hR hP hS hL)
theorem q_abs {x : Int32} {index : Nat} (hd : decode M.2.1 pc = .ok (.invokestatic index, 3)) (hl : Cond.methodLink M.1.cls index Lib.Math.abs.name ∈ vt_tbl) (hstat : Cond.static Lib.Math.abs.name ∈ vt_tbl) (hini : Cond.initialized "java/lang/Math" ∈ vt_tbl) (hcode : Cond.code Lib.Math.abs.name Lib.Math.abs.code 1 (some .int) ∈ vt_tbl) (hcat : (st.map fun v => v.category).sum ≤ 8) (hro : 1 ≤ d) (k : TT g (vt_R d) 0 0 M X (pc + 3) L (.int (if 0 ≤ x then x else 0 - x) :: st) σ P) : TT g (vt_R d) 0 0 M X pc L (.int x :: st) σ P := by
  intro p e s m args below meth c H locs ls Q hC hR hP hS hL
  exact va_mabs (R := vt_R d) hC.1 hC.2.1 (by rw [hC.2.2.1, hL.1]) hC.2.2.2.1 (hC.2.2.2.2.1 _ hl) (hC.2.2.2.2.1 _ hstat) (hC.2.2.2.2.1 _ hini) (hC.2.2.2.2.1 _ hcode) hro (by show _ ≤ 48 * d; omega) (Nat.le_refl _) (Nat.le_refl _) hd (k p e s m args below meth c H locs ls Q hC hR hP hS hL)
end QM
theorem vt_inl {i : Int32} {n : Nat} (h : decide (¬ (i < 0 ∨ n ≤ i.toNatClampNeg)) = true) : vp_in i n := by
  have h2 := of_decide_eq_true h
  exact h2
/-- fewer known locals -/
def vt_le : List (Option Value) → List (Option Value) → Prop
  | [], [] => True
  | none :: a, _ :: b => vt_le a b
  | some v :: a, w :: b => w = some v ∧ vt_le a b
  | _, _ => False
theorem vt_le_at : ∀ (A B : List (Option Value)), vt_le A B → A.length = B.length ∧ ∀ (i : Nat) (v : Value), A[i]? = some (some v) → B[i]? = some (some v)
  | [], [], _ => ⟨rfl, fun i v h => by simp at h⟩
  | none :: a, _ :: b, h => by
    obtain ⟨h1, h2⟩ := vt_le_at a b h
    refine ⟨by simp [h1], fun i v hi => ?_⟩
    cases i with
    | zero => simp at hi
    | succ i => simpa using h2 i v (by simpa using hi)
  | some w :: a, x :: b, h => by
    obtain ⟨h0, h⟩ := h
    obtain ⟨h1, h2⟩ := vt_le_at a b h
    refine ⟨by simp [h1], fun i v hi => ?_⟩
    cases i with
    | zero => simp at hi; simp [h0, hi]
    | succ i => simpa using h2 i v (by simpa using hi)
  | [], _ :: _, h => by simp [vt_le] at h
  | none :: _, [], h => by simp [vt_le] at h
  | some _ :: _, [], h => by simp [vt_le] at h
theorem q_wk {g : vt_GT} {R : Room} {cl sl : Nat} {M : vt_MD} {X : vt_XT} {pc : Nat} {L L' : List (Option Value)} {st : List Value} {σ : vt_Sg} {P : Option Value → vt_Sg → Prop} (hle : vt_le L' L) (k : TT g R cl sl M X pc L' st σ P) : TT g R cl sl M X pc L st σ P := by
  intro p e s m args below meth c H locs ls Q hC hR hP hS hL
  obtain ⟨h1, h2⟩ := vt_le_at L' L hle
  exact k p e s m args below meth c H locs ls Q hC hR hP hS ⟨hL.1, h1.trans hL.2.1, hL.2.2.1, fun i v hi => hL.2.2.2 i v (h2 i v hi)⟩
section QI
variable {g : vt_GT} {d : Nat} {M : vt_MD} {X : vt_XT} {pc : Nat} {L L' : List (Option Value)} {st : List Value} {σ : vt_Sg} {P : Option Value → vt_Sg → Prop}
/-- calls that change nothing: their answer is a term, or a question -/
theorem q_cVi {d' index b : Nat} {D : vt_MD} (As rest : List Value) {stk : List Value} {e : Int32} (hd : decode M.2.1 pc = .ok (.invokevirtual index, 3)) (hD : vt_okV D As.length) (hl : Cond.methodLink M.1.cls index D.1 ∈ vt_tbl) (hrc : vt_rcv g D.1.cls b)
    (hst : stk = As.reverse ++ .ref b :: rest) (hcat : (rest.map fun v => v.category).sum ≤ 8) (hro : d' + 1 ≤ d) (hM : ∀ Φ : Int32 → vt_Sg → Prop, Φ e σ → vt_Mi g d' D (.ref b :: As) σ Φ) (k : TT g (vt_R d) 0 0 M X (pc + 3) L (.int e :: rest) σ P) : TT g (vt_R d) 0 0 M X pc L stk σ P :=
  q_cV As rest hd hD hl hrc hst hcat hro (hM (fun r σ' => r = e ∧ σ' = σ) ⟨rfl, rfl⟩) (fun v σ' ⟨r, e1, e2, e3⟩ => by subst e1; subst e2; subst e3; exact k)
theorem q_cSi {d' index : Nat} {D : vt_MD} (As rest : List Value) {stk : List Value} {e : Int32} (hd : decode M.2.1 pc = .ok (.invokestatic index, 3)) (hD : vt_okS D As.length) (hl : Cond.methodLink M.1.cls index D.1 ∈ vt_tbl)
    (hst : stk = As.reverse ++ rest) (hcat : (rest.map fun v => v.category).sum ≤ 8) (hro : d' + 1 ≤ d) (hM : ∀ Φ : Int32 → vt_Sg → Prop, Φ e σ → vt_Mi g d' D As σ Φ) (k : TT g (vt_R d) 0 0 M X (pc + 3) L (.int e :: rest) σ P) : TT g (vt_R d) 0 0 M X pc L stk σ P :=
  q_cS As rest hd hD hl hst hcat hro (hM (fun r σ' => r = e ∧ σ' = σ) ⟨rfl, rfl⟩) (fun v σ' ⟨r, e1, e2, e3⟩ => by subst e1; subst e2; subst e3; exact k)
theorem q_cVb {d' index b : Nat} {D : vt_MD} (As rest : List Value) {stk : List Value} {C : Prop} (hd : decode M.2.1 pc = .ok (.invokevirtual index, 3)) (hD : vt_okV D As.length) (hl : Cond.methodLink M.1.cls index D.1 ∈ vt_tbl) (hrc : vt_rcv g D.1.cls b)
    (hst : stk = As.reverse ++ .ref b :: rest) (hcat : (rest.map fun v => v.category).sum ≤ 8) (hro : d' + 1 ≤ d) (hM : ∀ Φ : Int32 → vt_Sg → Prop, (C → Φ 1 σ) ∧ (¬ C → Φ 0 σ) → vt_Mi g d' D (.ref b :: As) σ Φ) (k1 : C → TT g (vt_R d) 0 0 M X (pc + 3) L (.int 1 :: rest) σ P) (k0 : ¬ C → TT g (vt_R d) 0 0 M X (pc + 3) L (.int 0 :: rest) σ P) : TT g (vt_R d) 0 0 M X pc L stk σ P :=
  q_cV As rest hd hD hl hrc hst hcat hro (hM (fun r σ' => σ' = σ ∧ ((C ∧ r = 1) ∨ (¬ C ∧ r = 0))) ⟨fun c => ⟨rfl, Or.inl ⟨c, rfl⟩⟩, fun c => ⟨rfl, Or.inr ⟨c, rfl⟩⟩⟩) (fun v σ' ⟨r, e1, e2, e3⟩ => by
    subst e1; subst e2
    rcases e3 with ⟨c, rfl⟩ | ⟨c, rfl⟩
    · exact k1 c
    · exact k0 c)
theorem q_cSb {d' index : Nat} {D : vt_MD} (As rest : List Value) {stk : List Value} {C : Prop} (hd : decode M.2.1 pc = .ok (.invokestatic index, 3)) (hD : vt_okS D As.length) (hl : Cond.methodLink M.1.cls index D.1 ∈ vt_tbl)
    (hst : stk = As.reverse ++ rest) (hcat : (rest.map fun v => v.category).sum ≤ 8) (hro : d' + 1 ≤ d) (hM : ∀ Φ : Int32 → vt_Sg → Prop, (C → Φ 1 σ) ∧ (¬ C → Φ 0 σ) → vt_Mi g d' D As σ Φ) (k1 : C → TT g (vt_R d) 0 0 M X (pc + 3) L (.int 1 :: rest) σ P) (k0 : ¬ C → TT g (vt_R d) 0 0 M X (pc + 3) L (.int 0 :: rest) σ P) : TT g (vt_R d) 0 0 M X pc L stk σ P :=
  q_cS As rest hd hD hl hst hcat hro (hM (fun r σ' => σ' = σ ∧ ((C ∧ r = 1) ∨ (¬ C ∧ r = 0))) ⟨fun c => ⟨rfl, Or.inl ⟨c, rfl⟩⟩, fun c => ⟨rfl, Or.inr ⟨c, rfl⟩⟩⟩) (fun v σ' ⟨r, e1, e2, e3⟩ => by
    subst e1; subst e2
    rcases e3 with ⟨c, rfl⟩ | ⟨c, rfl⟩
    · exact k1 c
    · exact k0 c)
end QI
/-- a contract out of the walk from the entry -/
theorem mI {g : vt_GT} {d n : Nat} {D : vt_MD} {As : List Value} {L : List (Option Value)} {σ : vt_Sg} {Φ : Int32 → vt_Sg → Prop} (hD : vt_ok D n) (hcat : As.all (fun v => v.category == 1) = true) (hlen : Nat.ble As.length D.2.2.1 = true) (hL : As.map some ++ List.replicate (D.2.2.1 - As.length) none = L)
    (h : TT g (vt_R d) 0 0 D none 0 L [] σ (fun v σ' => ∃ r : Int32, v = some (.int r) ∧ Φ r σ')) : vt_Mi g d D As σ Φ := by
  subst hL
  exact vt_meth hD (fun v hv => eq_of_beq (List.all_eq_true.mp hcat v hv)) (Nat.le_of_ble_eq_true hlen) h
theorem mV {g : vt_GT} {d n : Nat} {D : vt_MD} {As : List Value} {L : List (Option Value)} {σ : vt_Sg} {Φ : vt_Sg → Prop} (hD : vt_ok D n) (hcat : As.all (fun v => v.category == 1) = true) (hlen : Nat.ble As.length D.2.2.1 = true) (hL : As.map some ++ List.replicate (D.2.2.1 - As.length) none = L)
    (h : TT g (vt_R d) 0 0 D none 0 L [] σ (fun v σ' => v = none ∧ Φ σ')) : vt_Mv g d D As σ Φ := by
  subst hL
  exact vt_meth hD (fun v hv => eq_of_beq (List.all_eq_true.mp hcat v hv)) (Nat.le_of_ble_eq_true hlen) h
/-! the tables' words, by their places -/
theorem tb1 {w : Cond} (h : w ∈ tables_1_1) (hg : goodWord w = true) : w ∈ vt_tbl := vt_in (List.mem_append_right _ (List.mem_append_left _ h)) hg
theorem tb2 {w : Cond} (h : w ∈ tables_1_2) (hg : goodWord w = true) : w ∈ vt_tbl := vt_in (List.mem_append_right _ (List.mem_append_right _ (List.mem_append_left _ h))) hg
theorem tb3 {w : Cond} (h : w ∈ tables_1_3) (hg : goodWord w = true) : w ∈ vt_tbl := vt_in (List.mem_append_right _ (List.mem_append_right _ (List.mem_append_right _ (List.mem_append_left _ h)))) hg
theorem tb4 {w : Cond} (h : w ∈ tables_1_4) (hg : goodWord w = true) : w ∈ vt_tbl := vt_in (List.mem_append_right _ (List.mem_append_right _ (List.mem_append_right _ (List.mem_append_right _ (List.mem_append_left _ h))))) hg
theorem tb5 {w : Cond} (h : w ∈ tables_1_5) (hg : goodWord w = true) : w ∈ vt_tbl := vt_in (List.mem_append_right _ (List.mem_append_right _ (List.mem_append_right _ (List.mem_append_right _ (List.mem_append_right _ (List.mem_append_left _ h)))))) hg
theorem tb6 {w : Cond} (h : w ∈ tables_1_6) (hg : goodWord w = true) : w ∈ vt_tbl := vt_in (List.mem_append_right _ (List.mem_append_right _ (List.mem_append_right _ (List.mem_append_right _ (List.mem_append_right _ (List.mem_append_right _ h)))))) hg
theorem inX0_ok : ∀ w ∈ u_ws RX0 TX0 10, w ∈ vt_tbl := fun w h => by
  obtain ⟨k, hk, rfl⟩ := List.mem_map.mp h
  have hk := List.mem_range.mp hk
  match k, hk with
  | 0, _ => exact tb1 (List.mem_of_getElem? (i := 211) rfl) rfl
  | 1, _ => exact tb1 (List.mem_of_getElem? (i := 213) rfl) rfl
  | 2, _ => exact tb1 (List.mem_of_getElem? (i := 215) rfl) rfl
  | 3, _ => exact tb1 (List.mem_of_getElem? (i := 217) rfl) rfl
  | 4, _ => exact tb1 (List.mem_of_getElem? (i := 219) rfl) rfl
  | 5, _ => exact tb1 (List.mem_of_getElem? (i := 221) rfl) rfl
  | 6, _ => exact tb1 (List.mem_of_getElem? (i := 223) rfl) rfl
  | 7, _ => exact tb1 (List.mem_of_getElem? (i := 225) rfl) rfl
  | 8, _ => exact tb1 (List.mem_of_getElem? (i := 227) rfl) rfl
  | 9, _ => exact tb1 (List.mem_of_getElem? (i := 229) rfl) rfl
theorem inX1_ok : ∀ w ∈ u_ws RX1 TX1 2, w ∈ vt_tbl := fun w h => by
  obtain ⟨k, hk, rfl⟩ := List.mem_map.mp h
  have hk := List.mem_range.mp hk
  match k, hk with
  | 0, _ => exact tb2 (List.mem_of_getElem? (i := 101) rfl) rfl
  | 1, _ => exact tb2 (List.mem_of_getElem? (i := 103) rfl) rfl
theorem inX2_ok : ∀ w ∈ u_ws RX2 TX2 7, w ∈ vt_tbl := fun w h => by
  obtain ⟨k, hk, rfl⟩ := List.mem_map.mp h
  have hk := List.mem_range.mp hk
  match k, hk with
  | 0, _ => exact tb2 (List.mem_of_getElem? (i := 78) rfl) rfl
  | 1, _ => exact tb2 (List.mem_of_getElem? (i := 80) rfl) rfl
  | 2, _ => exact tb2 (List.mem_of_getElem? (i := 82) rfl) rfl
  | 3, _ => exact tb2 (List.mem_of_getElem? (i := 84) rfl) rfl
  | 4, _ => exact tb2 (List.mem_of_getElem? (i := 86) rfl) rfl
  | 5, _ => exact tb2 (List.mem_of_getElem? (i := 88) rfl) rfl
  | 6, _ => exact tb2 (List.mem_of_getElem? (i := 90) rfl) rfl
theorem inX3_ok : ∀ w ∈ u_ws RX3 TX3 3, w ∈ vt_tbl := fun w h => by
  obtain ⟨k, hk, rfl⟩ := List.mem_map.mp h
  have hk := List.mem_range.mp hk
  match k, hk with
  | 0, _ => exact tb1 (List.mem_of_getElem? (i := 50) rfl) rfl
  | 1, _ => exact tb1 (List.mem_of_getElem? (i := 52) rfl) rfl
  | 2, _ => exact tb1 (List.mem_of_getElem? (i := 54) rfl) rfl
theorem inX4_ok : ∀ w ∈ u_ws RX4 TX4 3, w ∈ vt_tbl := fun w h => by
  obtain ⟨k, hk, rfl⟩ := List.mem_map.mp h
  have hk := List.mem_range.mp hk
  match k, hk with
  | 0, _ => exact tb1 (List.mem_of_getElem? (i := 170) rfl) rfl
  | 1, _ => exact tb1 (List.mem_of_getElem? (i := 172) rfl) rfl
  | 2, _ => exact tb1 (List.mem_of_getElem? (i := 174) rfl) rfl
theorem inX5_ok : ∀ w ∈ u_ws RX5 TX5 6, w ∈ vt_tbl := fun w h => by
  obtain ⟨k, hk, rfl⟩ := List.mem_map.mp h
  have hk := List.mem_range.mp hk
  match k, hk with
  | 0, _ => exact tb1 (List.mem_of_getElem? (i := 143) rfl) rfl
  | 1, _ => exact tb1 (List.mem_of_getElem? (i := 145) rfl) rfl
  | 2, _ => exact tb1 (List.mem_of_getElem? (i := 147) rfl) rfl
  | 3, _ => exact tb1 (List.mem_of_getElem? (i := 149) rfl) rfl
  | 4, _ => exact tb1 (List.mem_of_getElem? (i := 151) rfl) rfl
  | 5, _ => exact tb1 (List.mem_of_getElem? (i := 153) rfl) rfl
theorem inX6_ok : ∀ w ∈ u_ws RX6 TX6 9, w ∈ vt_tbl := fun w h => by
  obtain ⟨k, hk, rfl⟩ := List.mem_map.mp h
  have hk := List.mem_range.mp hk
  match k, hk with
  | 0, _ => exact tb2 (List.mem_of_getElem? (i := 124) rfl) rfl
  | 1, _ => exact tb2 (List.mem_of_getElem? (i := 126) rfl) rfl
  | 2, _ => exact tb2 (List.mem_of_getElem? (i := 128) rfl) rfl
  | 3, _ => exact tb2 (List.mem_of_getElem? (i := 130) rfl) rfl
  | 4, _ => exact tb2 (List.mem_of_getElem? (i := 132) rfl) rfl
  | 5, _ => exact tb2 (List.mem_of_getElem? (i := 134) rfl) rfl
  | 6, _ => exact tb2 (List.mem_of_getElem? (i := 136) rfl) rfl
  | 7, _ => exact tb2 (List.mem_of_getElem? (i := 138) rfl) rfl
  | 8, _ => exact tb2 (List.mem_of_getElem? (i := 140) rfl) rfl
theorem inX7_ok : ∀ w ∈ u_ws RX7 TX7 4, w ∈ vt_tbl := fun w h => by
  obtain ⟨k, hk, rfl⟩ := List.mem_map.mp h
  have hk := List.mem_range.mp hk
  match k, hk with
  | 0, _ => exact tb1 (List.mem_of_getElem? (i := 116) rfl) rfl
  | 1, _ => exact tb1 (List.mem_of_getElem? (i := 118) rfl) rfl
  | 2, _ => exact tb1 (List.mem_of_getElem? (i := 120) rfl) rfl
  | 3, _ => exact tb1 (List.mem_of_getElem? (i := 122) rfl) rfl
theorem inX8_ok : ∀ w ∈ u_ws RX8 TX8 10, w ∈ vt_tbl := fun w h => by
  obtain ⟨k, hk, rfl⟩ := List.mem_map.mp h
  have hk := List.mem_range.mp hk
  match k, hk with
  | 0, _ => exact tb2 (List.mem_of_getElem? (i := 12) rfl) rfl
  | 1, _ => exact tb2 (List.mem_of_getElem? (i := 14) rfl) rfl
  | 2, _ => exact tb2 (List.mem_of_getElem? (i := 16) rfl) rfl
  | 3, _ => exact tb2 (List.mem_of_getElem? (i := 18) rfl) rfl
  | 4, _ => exact tb2 (List.mem_of_getElem? (i := 20) rfl) rfl
  | 5, _ => exact tb2 (List.mem_of_getElem? (i := 22) rfl) rfl
  | 6, _ => exact tb2 (List.mem_of_getElem? (i := 24) rfl) rfl
  | 7, _ => exact tb2 (List.mem_of_getElem? (i := 26) rfl) rfl
  | 8, _ => exact tb2 (List.mem_of_getElem? (i := 28) rfl) rfl
  | 9, _ => exact tb2 (List.mem_of_getElem? (i := 30) rfl) rfl
theorem inX9_ok : ∀ w ∈ u_ws RX9 TX9 2, w ∈ vt_tbl := fun w h => by
  obtain ⟨k, hk, rfl⟩ := List.mem_map.mp h
  have hk := List.mem_range.mp hk
  match k, hk with
  | 0, _ => exact tb2 (List.mem_of_getElem? (i := 46) rfl) rfl
  | 1, _ => exact tb2 (List.mem_of_getElem? (i := 48) rfl) rfl
theorem inX10_ok : ∀ w ∈ u_ws RX10 TX10 8, w ∈ vt_tbl := fun w h => by
  obtain ⟨k, hk, rfl⟩ := List.mem_map.mp h
  have hk := List.mem_range.mp hk
  match k, hk with
  | 0, _ => exact tb1 (List.mem_of_getElem? (i := 84) rfl) rfl
  | 1, _ => exact tb1 (List.mem_of_getElem? (i := 86) rfl) rfl
  | 2, _ => exact tb1 (List.mem_of_getElem? (i := 88) rfl) rfl
  | 3, _ => exact tb1 (List.mem_of_getElem? (i := 90) rfl) rfl
  | 4, _ => exact tb1 (List.mem_of_getElem? (i := 92) rfl) rfl
  | 5, _ => exact tb1 (List.mem_of_getElem? (i := 94) rfl) rfl
  | 6, _ => exact tb1 (List.mem_of_getElem? (i := 96) rfl) rfl
  | 7, _ => exact tb1 (List.mem_of_getElem? (i := 98) rfl) rfl
theorem inX11_ok : ∀ w ∈ u_ws RX11 TX11 11, w ∈ vt_tbl := fun w h => by
  obtain ⟨k, hk, rfl⟩ := List.mem_map.mp h
  have hk := List.mem_range.mp hk
  match k, hk with
  | 0, _ => exact tb2 (List.mem_of_getElem? (i := 154) rfl) rfl
  | 1, _ => exact tb2 (List.mem_of_getElem? (i := 156) rfl) rfl
  | 2, _ => exact tb2 (List.mem_of_getElem? (i := 158) rfl) rfl
  | 3, _ => exact tb2 (List.mem_of_getElem? (i := 160) rfl) rfl
  | 4, _ => exact tb2 (List.mem_of_getElem? (i := 162) rfl) rfl
  | 5, _ => exact tb2 (List.mem_of_getElem? (i := 164) rfl) rfl
  | 6, _ => exact tb2 (List.mem_of_getElem? (i := 166) rfl) rfl
  | 7, _ => exact tb2 (List.mem_of_getElem? (i := 168) rfl) rfl
  | 8, _ => exact tb2 (List.mem_of_getElem? (i := 170) rfl) rfl
  | 9, _ => exact tb2 (List.mem_of_getElem? (i := 172) rfl) rfl
  | 10, _ => exact tb2 (List.mem_of_getElem? (i := 174) rfl) rfl
theorem inX12_ok : ∀ w ∈ u_ws RX12 TX12 28, w ∈ vt_tbl := fun w h => by
  obtain ⟨k, hk, rfl⟩ := List.mem_map.mp h
  have hk := List.mem_range.mp hk
  match k, hk with
  | 0, _ => exact tb5 (List.mem_of_getElem? (i := 58) rfl) rfl
  | 1, _ => exact tb5 (List.mem_of_getElem? (i := 60) rfl) rfl
  | 2, _ => exact tb5 (List.mem_of_getElem? (i := 62) rfl) rfl
  | 3, _ => exact tb5 (List.mem_of_getElem? (i := 64) rfl) rfl
  | 4, _ => exact tb5 (List.mem_of_getElem? (i := 66) rfl) rfl
  | 5, _ => exact tb5 (List.mem_of_getElem? (i := 68) rfl) rfl
  | 6, _ => exact tb5 (List.mem_of_getElem? (i := 70) rfl) rfl
  | 7, _ => exact tb5 (List.mem_of_getElem? (i := 72) rfl) rfl
  | 8, _ => exact tb5 (List.mem_of_getElem? (i := 74) rfl) rfl
  | 9, _ => exact tb5 (List.mem_of_getElem? (i := 76) rfl) rfl
  | 10, _ => exact tb5 (List.mem_of_getElem? (i := 78) rfl) rfl
  | 11, _ => exact tb5 (List.mem_of_getElem? (i := 80) rfl) rfl
  | 12, _ => exact tb5 (List.mem_of_getElem? (i := 82) rfl) rfl
  | 13, _ => exact tb5 (List.mem_of_getElem? (i := 84) rfl) rfl
  | 14, _ => exact tb5 (List.mem_of_getElem? (i := 86) rfl) rfl
  | 15, _ => exact tb5 (List.mem_of_getElem? (i := 88) rfl) rfl
  | 16, _ => exact tb5 (List.mem_of_getElem? (i := 90) rfl) rfl
  | 17, _ => exact tb5 (List.mem_of_getElem? (i := 92) rfl) rfl
  | 18, _ => exact tb5 (List.mem_of_getElem? (i := 94) rfl) rfl
  | 19, _ => exact tb5 (List.mem_of_getElem? (i := 96) rfl) rfl
  | 20, _ => exact tb5 (List.mem_of_getElem? (i := 98) rfl) rfl
  | 21, _ => exact tb5 (List.mem_of_getElem? (i := 100) rfl) rfl
  | 22, _ => exact tb5 (List.mem_of_getElem? (i := 102) rfl) rfl
  | 23, _ => exact tb5 (List.mem_of_getElem? (i := 104) rfl) rfl
  | 24, _ => exact tb5 (List.mem_of_getElem? (i := 106) rfl) rfl
  | 25, _ => exact tb5 (List.mem_of_getElem? (i := 108) rfl) rfl
  | 26, _ => exact tb5 (List.mem_of_getElem? (i := 110) rfl) rfl
  | 27, _ => exact tb5 (List.mem_of_getElem? (i := 112) rfl) rfl
  | k + 28, hk => exact absurd hk (by omega)
