/-! THE JUDGEMENT: from pc with locals L, stack st, contents σ the method comes to its return, and P holds there -/
def vt_tbl : List Cond := lw_tbl.filter goodWord
theorem vt_in {w : Cond} (h : w ∈ lw_tbl) (hg : goodWord w = true) : w ∈ vt_tbl := List.mem_filter.mpr ⟨h, hg⟩
theorem vt_good {w : Cond} (h : w ∈ vt_tbl) : goodWord w = true := (List.mem_filter.mp h).2
theorem vt_goodIn {ws : List Cond} (h : ∀ w ∈ ws, w ∈ vt_tbl) : GoodIn vt_tbl ws := fun w hw => ⟨h w hw, good_of_word (vt_good (h w hw))⟩
abbrev vt_MD : Type := MethodName × ByteArray × Nat × Option FieldType
def vt_ws (M : vt_MD) : List Cond := .code M.1 M.2.1 M.2.2.1 M.2.2.2 :: vt_tbl
abbrev vt_R (d : Nat) : Room := { frames := d, cells := 0, slots := 0, locals := 48 * d }
def vt_isRet (M : vt_MD) (pc : Nat) (v : Option Value) : Prop := (M.2.2.2 = none ∧ v = none ∧ decode M.2.1 pc = .ok (.return_, 1)) ∨ ∃ (x : Int32) (ty : FieldType), M.2.2.2 = some ty ∧ v = some (.int x) ∧ narrow ty (.int x) = .int x ∧ decode M.2.1 pc = .ok (.ireturn, 1)
def vt_L (nL : Nat) (ls : Array Slot) (L : List (Option Value)) : Prop := ls.size = nL ∧ L.length = nL ∧ lv_wf ls ∧ ∀ (i : Nat) (v : Value), L[i]? = some (some v) → ls[i]? = some (.val v)
abbrev vt_XT : Type := Option (Nat × Nat × (Nat → Int32))
def vt_C (g : vt_GT) (M : vt_MD) (X : vt_XT) (p : Program) (s : State) (m : MethodId) (args : Array Value) (c : Code) : Prop :=
  p.tables.exec = Jvm.exec ∧ c.code = M.2.1 ∧ c.maxLocals = M.2.2.1 ∧ s.vm.findClass M.1.cls = some m.cls ∧ (∀ w ∈ vt_tbl, w.before args s = true) ∧ vt_G g s ∧ ∀ (b L : Nat) (xs : Nat → Int32), X = some (b, L, xs) → va_X b L xs s s.heap ∧ b < s.heap.size ∧ ¬ vt_A g b
def TT (g : vt_GT) (R : Room) (cl sl : Nat) (M : vt_MD) (X : vt_XT) (pc : Nat) (L : List (Option Value)) (st : List Value) (σ : vt_Sg) (P : Option Value → vt_Sg → Prop) : Prop :=
  ∀ (p : Program) (e : Env) (s : State) (m : MethodId) (args : Array Value) (below : List Frame) (meth : Method) (c : Code) (H : Heap) (locs : List Loc) (ls : Array Slot) (Q : State → Prop),
    vt_C g M X p s m args c →
    (∀ (v : Option Value) (σ' : vt_Sg) (H' : Heap) (locs' : List Loc) (pc' : Nat) (ls' : Array Slot), P v σ' → vt_P g σ' H' → va_S (vt_A g) s.heap H' locs' → vt_isRet M pc' v → W p g.1 e R s m args below meth c H' locs' cl sl Q (F0 m pc' ls' v.toList)) →
    vt_P g σ H → va_S (vt_A g) s.heap H locs → vt_L M.2.2.1 ls L → W p g.1 e R s m args below meth c H locs cl sl Q (F0 m pc ls st)
section QR
variable {g : vt_GT} {R : Room} {cl sl : Nat} {M : vt_MD} {X : vt_XT} {pc : Nat} {L L' : List (Option Value)} {st : List Value} {σ : vt_Sg} {P : Option Value → vt_Sg → Prop}
theorem q_mono {P' : Option Value → vt_Sg → Prop} (h : TT g R cl sl M X pc L st σ P') (hPP : ∀ v σ', P' v σ' → P v σ') : TT g R cl sl M X pc L st σ P := by
  intro p e s m args below meth c H locs ls Q hC hR hP hS hL
  exact h p e s m args below meth c H locs ls Q hC (fun v σ' H' locs' pc' ls' h1 h2 h3 h4 => hR v σ' H' locs' pc' ls' (hPP v σ' h1) h2 h3 h4) hP hS hL
theorem q_iret {x : Int32} (ty : FieldType) (hty : M.2.2.2 = some ty) (hn : narrow ty (.int x) = .int x) (hd : decode M.2.1 pc = .ok (.ireturn, 1)) (h : P (some (.int x)) σ) : TT g R cl sl M X pc L [.int x] σ P := by
  intro p e s m args below meth c H locs ls Q hC hR hP hS hL
  exact hR (some (.int x)) σ H locs pc ls h hP hS (Or.inr ⟨x, ty, hty, rfl, hn, hd⟩)
theorem q_vret (hty : M.2.2.2 = none) (hd : decode M.2.1 pc = .ok (.return_, 1)) (h : P none σ) : TT g R cl sl M X pc L [] σ P := by
  intro p e s m args below meth c H locs ls Q hC hR hP hS hL
  exact hR none σ H locs pc ls h hP hS (Or.inl ⟨hty, rfl, hd⟩)
theorem q_pc {pc' : Nat} (h : pc = pc') (k : TT g R cl sl M X pc' L st σ P) : TT g R cl sl M X pc L st σ P := h ▸ k
theorem vt_L.set1 {nL : Nat} {ls : Array Slot} {i : Nat} {v : Value} (h : vt_L nL ls L) (hi : i < nL) (hc : v.category = 1) (hw : ∀ (j : Nat) (z : Value), L[j]? = some (some z) → j + 1 = i → z.category = 1) : ∃ ls', storeLocals ls i v = some ls' ∧ vt_L nL ls' (L.set i (some v)) := by
  obtain ⟨h1, h2, h3, h4⟩ := h
  have hh : ∀ q ∈ (L.zipIdx.filterMap (fun q => q.1.map (fun z => (q.2, z)))), ls[q.1]? = some (.val q.2) := by
    intro q hq
    obtain ⟨⟨o, j⟩, hm, he⟩ := List.mem_filterMap.mp hq
    have hj := List.mem_zipIdx_iff_getElem?.mp hm
    cases o with
    | none => cases he
    | some z => cases he; exact h4 j z hj
  obtain ⟨ls', e1, e2, e3, e4⟩ := lv_store1 (ls := ls) (nL := nL) (l := L.zipIdx.filterMap (fun q => q.1.map (fun z => (q.2, z)))) ⟨h1, h3, hh⟩ hi hc
  refine ⟨ls', e1, e2, by rw [List.length_set]; exact h2, e3, fun j z hz => ?_⟩
  by_cases hj : j = i
  · subst hj
    rw [List.getElem?_set_self (by omega)] at hz
    cases hz
    exact e4 (j, v) List.mem_cons_self
  · rw [List.getElem?_set_ne (Ne.symm hj)] at hz
    refine e4 (j, z) (List.mem_cons_of_mem _ (List.mem_filter.mpr ⟨List.mem_filterMap.mpr ⟨(some z, j), List.mem_zipIdx_iff_getElem?.mpr hz, rfl⟩, ?_⟩))
    have hcz := hw j z hz
    by_cases hji : j + 1 = i
    · simp [hj, hcz hji]
    · simp [hj, hji]

theorem q_iload_n {i : Fin 4} {x : Int32} (hd : decode M.2.1 pc = .ok (.iload_n i, 1)) (hl : L[(i : Nat)]? = some (some (.int x))) (k : TT g R cl sl M X (pc + 1) L (.int x :: st) σ P) : TT g R cl sl M X pc L (st) σ P := by
  intro p e s m args below meth c H locs ls Q hC hR hP hS hL
  exact lv_iload_n hC.1 hC.2.1 hd rfl (hL.2.2.2 _ _ hl) (k p e s m args below meth c H locs ls Q hC hR hP hS hL)
theorem q_iload {i : Nat} {x : Int32} (hd : decode M.2.1 pc = .ok (.iload i, 2)) (hl : L[i]? = some (some (.int x))) (k : TT g R cl sl M X (pc + 2) L (.int x :: st) σ P) : TT g R cl sl M X pc L (st) σ P := by
  intro p e s m args below meth c H locs ls Q hC hR hP hS hL
  exact lv_iload hC.1 hC.2.1 hd (hL.2.2.2 _ _ hl) (k p e s m args below meth c H locs ls Q hC hR hP hS hL)
theorem q_lload {i : Nat} {x : Int64} (hd : decode M.2.1 pc = .ok (.lload i, 2)) (hl : L[i]? = some (some (.long x))) (k : TT g R cl sl M X (pc + 2) L (.long x :: st) σ P) : TT g R cl sl M X pc L (st) σ P := by
  intro p e s m args below meth c H locs ls Q hC hR hP hS hL
  exact lv_lload hC.1 hC.2.1 hd (hL.2.2.2 _ _ hl) (k p e s m args below meth c H locs ls Q hC hR hP hS hL)
theorem q_aload_n {i : Fin 4} {x : Nat} (hd : decode M.2.1 pc = .ok (.aload_n i, 1)) (hl : L[(i : Nat)]? = some (some (.ref x))) (k : TT g R cl sl M X (pc + 1) L (.ref x :: st) σ P) : TT g R cl sl M X pc L (st) σ P := by
  intro p e s m args below meth c H locs ls Q hC hR hP hS hL
  exact lv_aload_n hC.1 hC.2.1 hd rfl (hL.2.2.2 _ _ hl) (k p e s m args below meth c H locs ls Q hC hR hP hS hL)
theorem q_aload {i : Nat} {x : Nat} (hd : decode M.2.1 pc = .ok (.aload i, 2)) (hl : L[i]? = some (some (.ref x))) (k : TT g R cl sl M X (pc + 2) L (.ref x :: st) σ P) : TT g R cl sl M X pc L (st) σ P := by
  intro p e s m args below meth c H locs ls Q hC hR hP hS hL
  exact lv_aload hC.1 hC.2.1 hd (hL.2.2.2 _ _ hl) (k p e s m args below meth c H locs ls Q hC hR hP hS hL)
theorem q_iconst {n : Int} {v : Int32} (hd : decode M.2.1 pc = .ok (.iconst n, 1)) (hv : Int32.ofInt n = v) (k : TT g R cl sl M X (pc + 1) L (.int v :: st) σ P) : TT g R cl sl M X pc L (st) σ P := by
  intro p e s m args below meth c H locs ls Q hC hR hP hS hL
  exact lv_iconst hC.1 hC.2.1 hd hv (k p e s m args below meth c H locs ls Q hC hR hP hS hL)
theorem q_bipush {n : Int} {v : Int32} (hd : decode M.2.1 pc = .ok (.bipush n, 2)) (hv : (Int8.ofInt n).toInt32 = v) (k : TT g R cl sl M X (pc + 2) L (.int v :: st) σ P) : TT g R cl sl M X pc L (st) σ P := by
  intro p e s m args below meth c H locs ls Q hC hR hP hS hL
  exact lv_bipush hC.1 hC.2.1 hd hv (k p e s m args below meth c H locs ls Q hC hR hP hS hL)
theorem q_sipush {n : Int} {v : Int32} (hd : decode M.2.1 pc = .ok (.sipush n, 3)) (hv : (Int16.ofInt n).toInt32 = v) (k : TT g R cl sl M X (pc + 3) L (.int v :: st) σ P) : TT g R cl sl M X pc L (st) σ P := by
  intro p e s m args below meth c H locs ls Q hC hR hP hS hL
  exact lv_sipush hC.1 hC.2.1 hd hv (k p e s m args below meth c H locs ls Q hC hR hP hS hL)
theorem q_ldc {i : Nat} {v : Int32} (hd : decode M.2.1 pc = .ok (.ldc i, 2)) (hw : Cond.constant M.1.cls i v ∈ vt_tbl) (k : TT g R cl sl M X (pc + 2) L (.int v :: st) σ P) : TT g R cl sl M X pc L (st) σ P := by
  intro p e s m args below meth c H locs ls Q hC hR hP hS hL
  exact lv_ldc hC.1 hC.2.1 hC.2.2.2.1 (hC.2.2.2.2.1 _ hw) hd (k p e s m args below meth c H locs ls Q hC hR hP hS hL)
theorem q_ldcw {i : Nat} {v : Int32} (hd : decode M.2.1 pc = .ok (.ldc_w i, 3)) (hw : Cond.constant M.1.cls i v ∈ vt_tbl) (k : TT g R cl sl M X (pc + 3) L (.int v :: st) σ P) : TT g R cl sl M X pc L (st) σ P := by
  intro p e s m args below meth c H locs ls Q hC hR hP hS hL
  exact lv_ldcw hC.1 hC.2.1 hC.2.2.2.1 (hC.2.2.2.2.1 _ hw) hd (k p e s m args below meth c H locs ls Q hC hR hP hS hL)
theorem q_ldc2 {i : Nat} {v : Int64} (hd : decode M.2.1 pc = .ok (.ldc2_w i, 3)) (hw : Cond.constantLong M.1.cls i v ∈ vt_tbl) (k : TT g R cl sl M X (pc + 3) L (.long v :: st) σ P) : TT g R cl sl M X pc L (st) σ P := by
  intro p e s m args below meth c H locs ls Q hC hR hP hS hL
  exact lv_ldc2 hC.1 hC.2.1 hC.2.2.2.1 (hC.2.2.2.2.1 _ hw) hd (k p e s m args below meth c H locs ls Q hC hR hP hS hL)
theorem q_ldcS {i k0 : Nat} {tx : String} {bs : List Int32} (hd : decode M.2.1 pc = .ok (.ldc i, 2)) (hw : vt_strs[k0]? = some (M.1.cls, i, tx, bs)) (k : TT g R cl sl M X (pc + 2) L (.ref (g.2.2.2.2.1 k0) :: st) σ P) : TT g R cl sl M X pc L (st) σ P := by
  intro p e s m args below meth c H locs ls Q hC hR hP hS hL
  exact va_ldcS hC.1 hC.2.1 hC.2.2.2.1 (hC.2.2.2.2.2.1.2.2.2.1 _ _ hw) hd (k p e s m args below meth c H locs ls Q hC hR hP hS hL)
theorem q_iadd {x y : Int32} (hd : decode M.2.1 pc = .ok (.iadd, 1)) (k : TT g R cl sl M X (pc + 1) L (.int (x + y) :: st) σ P) : TT g R cl sl M X pc L (.int y :: .int x :: st) σ P := by
  intro p e s m args below meth c H locs ls Q hC hR hP hS hL
  exact lv_iadd hC.1 hC.2.1 hd (k p e s m args below meth c H locs ls Q hC hR hP hS hL)
theorem q_isub {x y : Int32} (hd : decode M.2.1 pc = .ok (.isub, 1)) (k : TT g R cl sl M X (pc + 1) L (.int (x - y) :: st) σ P) : TT g R cl sl M X pc L (.int y :: .int x :: st) σ P := by
  intro p e s m args below meth c H locs ls Q hC hR hP hS hL
  exact lv_isub hC.1 hC.2.1 hd (k p e s m args below meth c H locs ls Q hC hR hP hS hL)
theorem q_imul {x y : Int32} (hd : decode M.2.1 pc = .ok (.imul, 1)) (k : TT g R cl sl M X (pc + 1) L (.int (x * y) :: st) σ P) : TT g R cl sl M X pc L (.int y :: .int x :: st) σ P := by
  intro p e s m args below meth c H locs ls Q hC hR hP hS hL
  exact lv_imul hC.1 hC.2.1 hd (k p e s m args below meth c H locs ls Q hC hR hP hS hL)
theorem q_iand {x y : Int32} (hd : decode M.2.1 pc = .ok (.iand, 1)) (k : TT g R cl sl M X (pc + 1) L (.int (x &&& y) :: st) σ P) : TT g R cl sl M X pc L (.int y :: .int x :: st) σ P := by
  intro p e s m args below meth c H locs ls Q hC hR hP hS hL
  exact lv_iand hC.1 hC.2.1 hd (k p e s m args below meth c H locs ls Q hC hR hP hS hL)
theorem q_ior {x y : Int32} (hd : decode M.2.1 pc = .ok (.ior, 1)) (k : TT g R cl sl M X (pc + 1) L (.int (x ||| y) :: st) σ P) : TT g R cl sl M X pc L (.int y :: .int x :: st) σ P := by
  intro p e s m args below meth c H locs ls Q hC hR hP hS hL
  exact lv_ior hC.1 hC.2.1 hd (k p e s m args below meth c H locs ls Q hC hR hP hS hL)
theorem q_ixor {x y : Int32} (hd : decode M.2.1 pc = .ok (.ixor, 1)) (k : TT g R cl sl M X (pc + 1) L (.int (x ^^^ y) :: st) σ P) : TT g R cl sl M X pc L (.int y :: .int x :: st) σ P := by
  intro p e s m args below meth c H locs ls Q hC hR hP hS hL
  exact lv_ixor hC.1 hC.2.1 hd (k p e s m args below meth c H locs ls Q hC hR hP hS hL)
theorem q_ishl {x y : Int32} (hd : decode M.2.1 pc = .ok (.ishl, 1)) (k : TT g R cl sl M X (pc + 1) L (.int (x <<< (y &&& 31)) :: st) σ P) : TT g R cl sl M X pc L (.int y :: .int x :: st) σ P := by
  intro p e s m args below meth c H locs ls Q hC hR hP hS hL
  exact lv_ishl hC.1 hC.2.1 hd (k p e s m args below meth c H locs ls Q hC hR hP hS hL)
theorem q_ishr {x y : Int32} (hd : decode M.2.1 pc = .ok (.ishr, 1)) (k : TT g R cl sl M X (pc + 1) L (.int (x >>> (y &&& 31)) :: st) σ P) : TT g R cl sl M X pc L (.int y :: .int x :: st) σ P := by
  intro p e s m args below meth c H locs ls Q hC hR hP hS hL
  exact lv_ishr hC.1 hC.2.1 hd (k p e s m args below meth c H locs ls Q hC hR hP hS hL)
theorem q_idiv {x y : Int32} (hd : decode M.2.1 pc = .ok (.idiv, 1)) (hne : ¬ y = 0) (k : TT g R cl sl M X (pc + 1) L (.int (x / y) :: st) σ P) : TT g R cl sl M X pc L (.int y :: .int x :: st) σ P := by
  intro p e s m args below meth c H locs ls Q hC hR hP hS hL
  exact lv_idiv hC.1 hC.2.1 hd hne (k p e s m args below meth c H locs ls Q hC hR hP hS hL)
theorem q_irem {x y : Int32} (hd : decode M.2.1 pc = .ok (.irem, 1)) (hne : ¬ y = 0) (k : TT g R cl sl M X (pc + 1) L (.int (x - x / y * y) :: st) σ P) : TT g R cl sl M X pc L (.int y :: .int x :: st) σ P := by
  intro p e s m args below meth c H locs ls Q hC hR hP hS hL
  exact lv_irem hC.1 hC.2.1 hd hne (k p e s m args below meth c H locs ls Q hC hR hP hS hL)
theorem q_ineg {x : Int32} (hd : decode M.2.1 pc = .ok (.ineg, 1)) (k : TT g R cl sl M X (pc + 1) L (.int (-x) :: st) σ P) : TT g R cl sl M X pc L (.int x :: st) σ P := by
  intro p e s m args below meth c H locs ls Q hC hR hP hS hL
  exact lv_ineg hC.1 hC.2.1 hd (k p e s m args below meth c H locs ls Q hC hR hP hS hL)
theorem q_ladd {x y : Int64} (hd : decode M.2.1 pc = .ok (.ladd, 1)) (k : TT g R cl sl M X (pc + 1) L (.long (x + y) :: st) σ P) : TT g R cl sl M X pc L (.long y :: .long x :: st) σ P := by
  intro p e s m args below meth c H locs ls Q hC hR hP hS hL
  exact lv_ladd hC.1 hC.2.1 hd (k p e s m args below meth c H locs ls Q hC hR hP hS hL)
theorem q_lmul {x y : Int64} (hd : decode M.2.1 pc = .ok (.lmul, 1)) (k : TT g R cl sl M X (pc + 1) L (.long (x * y) :: st) σ P) : TT g R cl sl M X pc L (.long y :: .long x :: st) σ P := by
  intro p e s m args below meth c H locs ls Q hC hR hP hS hL
  exact lv_lmul hC.1 hC.2.1 hd (k p e s m args below meth c H locs ls Q hC hR hP hS hL)
theorem q_ldiv {x y : Int64} (hd : decode M.2.1 pc = .ok (.ldiv, 1)) (hne : ¬ y = 0) (k : TT g R cl sl M X (pc + 1) L (.long (x / y) :: st) σ P) : TT g R cl sl M X pc L (.long y :: .long x :: st) σ P := by
  intro p e s m args below meth c H locs ls Q hC hR hP hS hL
  exact lv_ldiv hC.1 hC.2.1 hd hne (k p e s m args below meth c H locs ls Q hC hR hP hS hL)
theorem q_lcmp {x y : Int64} (hd : decode M.2.1 pc = .ok (.lcmp, 1)) (k : TT g R cl sl M X (pc + 1) L (.int (lg_cmp x y) :: st) σ P) : TT g R cl sl M X pc L (.long y :: .long x :: st) σ P := by
  intro p e s m args below meth c H locs ls Q hC hR hP hS hL
  exact W.lcmp hC.1 hC.2.1 hd (k p e s m args below meth c H locs ls Q hC hR hP hS hL)
theorem q_i2l {x : Int32} (hd : decode M.2.1 pc = .ok (.i2l, 1)) (k : TT g R cl sl M X (pc + 1) L (.long x.toInt64 :: st) σ P) : TT g R cl sl M X pc L (.int x :: st) σ P := by
  intro p e s m args below meth c H locs ls Q hC hR hP hS hL
  exact lv_i2l hC.1 hC.2.1 hd rfl (k p e s m args below meth c H locs ls Q hC hR hP hS hL)
theorem q_i2b {x : Int32} (hd : decode M.2.1 pc = .ok (.i2b, 1)) (k : TT g R cl sl M X (pc + 1) L (.int x.toInt8.toInt32 :: st) σ P) : TT g R cl sl M X pc L (.int x :: st) σ P := by
  intro p e s m args below meth c H locs ls Q hC hR hP hS hL
  exact lv_i2b hC.1 hC.2.1 hd rfl (k p e s m args below meth c H locs ls Q hC hR hP hS hL)
theorem q_i2s {x : Int32} (hd : decode M.2.1 pc = .ok (.i2s, 1)) (k : TT g R cl sl M X (pc + 1) L (.int x.toInt16.toInt32 :: st) σ P) : TT g R cl sl M X pc L (.int x :: st) σ P := by
  intro p e s m args below meth c H locs ls Q hC hR hP hS hL
  exact lv_i2s hC.1 hC.2.1 hd rfl (k p e s m args below meth c H locs ls Q hC hR hP hS hL)
theorem q_i2c {x : Int32} (hd : decode M.2.1 pc = .ok (.i2c, 1)) (k : TT g R cl sl M X (pc + 1) L (.int (x.toUInt32 % 65536).toInt32 :: st) σ P) : TT g R cl sl M X pc L (.int x :: st) σ P := by
  intro p e s m args below meth c H locs ls Q hC hR hP hS hL
  exact lv_i2c hC.1 hC.2.1 hd rfl (k p e s m args below meth c H locs ls Q hC hR hP hS hL)
theorem q_dup {x : Value} (hd : decode M.2.1 pc = .ok (.dup, 1)) (hc : x.category = 1) (k : TT g R cl sl M X (pc + 1) L (x :: x :: st) σ P) : TT g R cl sl M X pc L (x :: st) σ P := by
  intro p e s m args below meth c H locs ls Q hC hR hP hS hL
  exact lv_dup hC.1 hC.2.1 hd hc (k p e s m args below meth c H locs ls Q hC hR hP hS hL)
theorem q_pop {x : Value} (hd : decode M.2.1 pc = .ok (.pop, 1)) (hc : x.category = 1) (k : TT g R cl sl M X (pc + 1) L (st) σ P) : TT g R cl sl M X pc L (x :: st) σ P := by
  intro p e s m args below meth c H locs ls Q hC hR hP hS hL
  exact lv_pop hC.1 hC.2.1 hd hc (k p e s m args below meth c H locs ls Q hC hR hP hS hL)
theorem q_dup2 {x y : Value} (hd : decode M.2.1 pc = .ok (.dup2, 1)) (hc : x.category = 1) (hc2 : y.category = 1) (k : TT g R cl sl M X (pc + 1) L (x :: y :: x :: y :: st) σ P) : TT g R cl sl M X pc L (x :: y :: st) σ P := by
  intro p e s m args below meth c H locs ls Q hC hR hP hS hL
  exact lv_dup2_11 hC.1 hC.2.1 hd hc hc2 (k p e s m args below meth c H locs ls Q hC hR hP hS hL)
theorem vt_store {cc : ByteArray} {p : Program} {l : Launch} {e : Env} {s : State} {m : MethodId} {args : Array Value} {below : List Frame} {meth : Method} {c : Code} {H : Heap} {locs : List Loc} {ls : Array Slot} {Q : State → Prop} {v : Value} {nL i : Nat}
    (hL : vt_L nL ls L) (hi : i < nL) (hc : v.category = 1) (hw : ∀ (j : Nat) (z : Value), L[j]? = some (some z) → j + 1 = i → z.category = 1)
    (h : ∀ ls' : Array Slot, storeLocals ls i v = some ls' → vt_L nL ls' (L.set i (some v)) → W p l e R s m args below meth c H locs cl sl Q (F0 m pc ls st)) : W p l e R s m args below meth c H locs cl sl Q (F0 m pc ls st) := by
  obtain ⟨ls', e1, e2⟩ := hL.set1 hi hc hw
  exact h ls' e1 e2
theorem vt_lvh {nL : Nat} {ls : Array Slot} (h : vt_L nL ls L) : lv_has ls nL (L.zipIdx.filterMap (fun q => q.1.map (fun z => (q.2, z)))) := by
  obtain ⟨h1, h2, h3, h4⟩ := h
  refine ⟨h1, h3, fun q hq => ?_⟩
  obtain ⟨⟨o, j⟩, hm, he⟩ := List.mem_filterMap.mp hq
  have hj := List.mem_zipIdx_iff_getElem?.mp hm
  cases o with
  | none => cases he
  | some z => cases he; exact h4 j z hj
/-- the locals behind a store -/
theorem vt_lvs {nL : Nat} {ls' : Array Slot} {i : Nat} {v : Value} (hlen : L.length = nL) (hi : i < nL) (hw : ∀ (j : Nat) (z : Value), L[j]? = some (some z) → j + 1 = i → z.category = 1)
    (h : lv_has ls' nL ((i, v) :: (L.zipIdx.filterMap (fun q => q.1.map (fun z => (q.2, z)))).filter (fun q => !(q.1 == i) && !(q.1 + 1 == i && q.2.category == 2)))) : vt_L nL ls' (L.set i (some v)) := by
  obtain ⟨e2, e3, e4⟩ := h
  refine ⟨e2, by rw [List.length_set]; exact hlen, e3, fun j z hz => ?_⟩
  by_cases hj : j = i
  · subst hj
    rw [List.getElem?_set_self (by omega)] at hz
    cases hz
    exact e4 (j, v) List.mem_cons_self
  · rw [List.getElem?_set_ne (Ne.symm hj)] at hz
    refine e4 (j, z) (List.mem_cons_of_mem _ (List.mem_filter.mpr ⟨List.mem_filterMap.mpr ⟨(some z, j), List.mem_zipIdx_iff_getElem?.mpr hz, rfl⟩, ?_⟩))
    have hcz := hw j z hz
    by_cases hji : j + 1 = i
    · simp [hj, hcz hji]
    · simp [hj, hji]
/-- longs are kept in no list of locals that a one-word store's neighbour could break -/
def vt_okL (L : List (Option Value)) (i : Nat) : Bool := match i with
  | 0 => true
  | j + 1 => match L[j]? with
    | some (some (.long _)) => false
    | some (some (.double _)) => false
    | _ => true
theorem vt_okL_use {i : Nat} (h : vt_okL L i = true) : ∀ (j : Nat) (z : Value), L[j]? = some (some z) → j + 1 = i → z.category = 1 := by
  intro j z hz hj
  subst hj
  simp only [vt_okL, hz] at h
  cases z <;> first | rfl | (simp at h)

theorem q_istore_n {i : Fin 4} {x : Int32} (hd : decode M.2.1 pc = .ok (.istore_n i, 1)) (hi : (i : Nat) < M.2.2.1) (ho : vt_okL L (i : Nat) = true) (hs : L.set (i : Nat) (some (.int x)) = L') (k : TT g R cl sl M X (pc + 1) L' st σ P) : TT g R cl sl M X pc L (.int x :: st) σ P := by
  intro p e s m args below meth c H locs ls Q hC hR hP hS hL
  subst hs
  exact lv_istore_n hC.1 hC.2.1 hd rfl (vt_lvh hL) hi rfl (fun ls' hl' => k p e s m args below meth c H locs ls' Q hC hR hP hS (vt_lvs hL.2.1 hi (vt_okL_use ho) hl'))
theorem q_istore {i : Nat} {x : Int32} (hd : decode M.2.1 pc = .ok (.istore i, 2)) (hi : i < M.2.2.1) (ho : vt_okL L i = true) (hs : L.set i (some (.int x)) = L') (k : TT g R cl sl M X (pc + 2) L' st σ P) : TT g R cl sl M X pc L (.int x :: st) σ P := by
  intro p e s m args below meth c H locs ls Q hC hR hP hS hL
  subst hs
  exact lv_istore hC.1 hC.2.1 hd (vt_lvh hL) hi rfl (fun ls' hl' => k p e s m args below meth c H locs ls' Q hC hR hP hS (vt_lvs hL.2.1 hi (vt_okL_use ho) hl'))
theorem q_astore_n {i : Fin 4} {x : Nat} (hd : decode M.2.1 pc = .ok (.astore_n i, 1)) (hi : (i : Nat) < M.2.2.1) (ho : vt_okL L (i : Nat) = true) (hs : L.set (i : Nat) (some (.ref x)) = L') (k : TT g R cl sl M X (pc + 1) L' st σ P) : TT g R cl sl M X pc L (.ref x :: st) σ P := by
  intro p e s m args below meth c H locs ls Q hC hR hP hS hL
  subst hs
  exact lv_astore_n hC.1 hC.2.1 hd rfl (vt_lvh hL) hi rfl (fun ls' hl' => k p e s m args below meth c H locs ls' Q hC hR hP hS (vt_lvs hL.2.1 hi (vt_okL_use ho) hl'))
theorem q_astore {i : Nat} {x : Nat} (hd : decode M.2.1 pc = .ok (.astore i, 2)) (hi : i < M.2.2.1) (ho : vt_okL L i = true) (hs : L.set i (some (.ref x)) = L') (k : TT g R cl sl M X (pc + 2) L' st σ P) : TT g R cl sl M X pc L (.ref x :: st) σ P := by
  intro p e s m args below meth c H locs ls Q hC hR hP hS hL
  subst hs
  exact lv_astore hC.1 hC.2.1 hd (vt_lvh hL) hi rfl (fun ls' hl' => k p e s m args below meth c H locs ls' Q hC hR hP hS (vt_lvs hL.2.1 hi (vt_okL_use ho) hl'))
theorem q_iinc {i : Nat} {n : Int} {x : Int32} (hd : decode M.2.1 pc = .ok (.iinc i n, 3)) (hl : L[i]? = some (some (.int x))) (hi : i < M.2.2.1) (ho : vt_okL L i = true) (hs : L.set i (some (.int (x + Int32.ofInt n))) = L') (k : TT g R cl sl M X (pc + 3) L' st σ P) : TT g R cl sl M X pc L st σ P := by
  intro p e s m args below meth c H locs ls Q hC hR hP hS hL
  subst hs
  have hm : (i, Value.int x) ∈ L.zipIdx.filterMap (fun q => q.1.map (fun z => (q.2, z))) := List.mem_filterMap.mpr ⟨(some (.int x), i), List.mem_zipIdx_iff_getElem?.mpr hl, rfl⟩
  obtain ⟨k0, hk0⟩ := List.getElem?_of_mem hm
  exact lv_iinc hC.1 hC.2.1 hd (vt_lvh hL) hk0 rfl hi rfl (fun ls' hl' => k p e s m args below meth c H locs ls' Q hC hR hP hS (vt_lvs hL.2.1 hi (vt_okL_use ho) hl'))
theorem q_lstore {i : Nat} {x : Int64} (hd : decode M.2.1 pc = .ok (.lstore i, 2)) (hi : i + 1 < M.2.2.1) (ho : vt_okL L i = true) (hs : (L.set i (some (.long x))).set (i + 1) none = L') (k : TT g R cl sl M X (pc + 2) L' st σ P) : TT g R cl sl M X pc L (.long x :: st) σ P := by
  intro p e s m args below meth c H locs ls Q hC hR hP hS hL
  subst hs
  refine lv_lstore hC.1 hC.2.1 hd (vt_lvh hL) hi rfl (fun ls' hl' => k p e s m args below meth c H locs ls' Q hC hR hP hS ?_)
  obtain ⟨e2, e3, e4⟩ := hl'
  have hlen := hL.2.1
  refine ⟨e2, by rw [List.length_set, List.length_set]; exact hlen, e3, fun j z hz => ?_⟩
  by_cases hj1 : j = i + 1
  · subst hj1
    rw [List.getElem?_set_self (by rw [List.length_set]; omega)] at hz
    cases hz
  · rw [List.getElem?_set_ne (Ne.symm hj1)] at hz
    by_cases hj : j = i
    · subst hj
      rw [List.getElem?_set_self (by omega)] at hz
      cases hz
      exact e4 (j, .long x) List.mem_cons_self
    · rw [List.getElem?_set_ne (Ne.symm hj)] at hz
      refine e4 (j, z) (List.mem_cons_of_mem _ (List.mem_filter.mpr ⟨List.mem_filterMap.mpr ⟨(some z, j), List.mem_zipIdx_iff_getElem?.mpr hz, rfl⟩, ?_⟩))
      have hcz := (vt_okL_use ho) j z hz
      by_cases hji : j + 1 = i
      · simp [hj, hj1, hcz hji]
      · simp [hj, hj1, hji]
theorem q_if_eq {x : Int32} {off : Int} {tgt : Nat} (hd : decode M.2.1 pc = .ok (.ifCond .eq off, 3)) (ht : (pc : Int) + off = (tgt : Int)) (kt : x = 0 → TT g R cl sl M X tgt L st σ P) (kf : ¬ x = 0 → TT g R cl sl M X (pc + 3) L st σ P) : TT g R cl sl M X pc L (.int x :: st) σ P := by
  intro p e s m args below meth c H locs ls Q hC hR hP hS hL
  exact lv_if_eq hC.1 hC.2.1 hd ht (fun h => kt h p e s m args below meth c H locs ls Q hC hR hP hS hL) (fun h => kf h p e s m args below meth c H locs ls Q hC hR hP hS hL)
theorem q_icmp_eq {x y : Int32} {off : Int} {tgt : Nat} (hd : decode M.2.1 pc = .ok (.if_icmp .eq off, 3)) (ht : (pc : Int) + off = (tgt : Int)) (kt : x = y → TT g R cl sl M X tgt L st σ P) (kf : ¬ x = y → TT g R cl sl M X (pc + 3) L st σ P) : TT g R cl sl M X pc L (.int y :: .int x :: st) σ P := by
  intro p e s m args below meth c H locs ls Q hC hR hP hS hL
  exact lv_icmp_eq hC.1 hC.2.1 hd ht (fun h => kt h p e s m args below meth c H locs ls Q hC hR hP hS hL) (fun h => kf h p e s m args below meth c H locs ls Q hC hR hP hS hL)
theorem q_if_ne {x : Int32} {off : Int} {tgt : Nat} (hd : decode M.2.1 pc = .ok (.ifCond .ne off, 3)) (ht : (pc : Int) + off = (tgt : Int)) (kt : ¬ x = 0 → TT g R cl sl M X tgt L st σ P) (kf : x = 0 → TT g R cl sl M X (pc + 3) L st σ P) : TT g R cl sl M X pc L (.int x :: st) σ P := by
  intro p e s m args below meth c H locs ls Q hC hR hP hS hL
  exact lv_if_ne hC.1 hC.2.1 hd ht (fun h => kt h p e s m args below meth c H locs ls Q hC hR hP hS hL) (fun h => kf h p e s m args below meth c H locs ls Q hC hR hP hS hL)
theorem q_icmp_ne {x y : Int32} {off : Int} {tgt : Nat} (hd : decode M.2.1 pc = .ok (.if_icmp .ne off, 3)) (ht : (pc : Int) + off = (tgt : Int)) (kt : ¬ x = y → TT g R cl sl M X tgt L st σ P) (kf : x = y → TT g R cl sl M X (pc + 3) L st σ P) : TT g R cl sl M X pc L (.int y :: .int x :: st) σ P := by
  intro p e s m args below meth c H locs ls Q hC hR hP hS hL
  exact lv_icmp_ne hC.1 hC.2.1 hd ht (fun h => kt h p e s m args below meth c H locs ls Q hC hR hP hS hL) (fun h => kf h p e s m args below meth c H locs ls Q hC hR hP hS hL)
theorem q_if_lt {x : Int32} {off : Int} {tgt : Nat} (hd : decode M.2.1 pc = .ok (.ifCond .lt off, 3)) (ht : (pc : Int) + off = (tgt : Int)) (kt : x < 0 → TT g R cl sl M X tgt L st σ P) (kf : ¬ x < 0 → TT g R cl sl M X (pc + 3) L st σ P) : TT g R cl sl M X pc L (.int x :: st) σ P := by
  intro p e s m args below meth c H locs ls Q hC hR hP hS hL
  exact lv_if_lt hC.1 hC.2.1 hd ht (fun h => kt h p e s m args below meth c H locs ls Q hC hR hP hS hL) (fun h => kf h p e s m args below meth c H locs ls Q hC hR hP hS hL)
theorem q_icmp_lt {x y : Int32} {off : Int} {tgt : Nat} (hd : decode M.2.1 pc = .ok (.if_icmp .lt off, 3)) (ht : (pc : Int) + off = (tgt : Int)) (kt : x < y → TT g R cl sl M X tgt L st σ P) (kf : ¬ x < y → TT g R cl sl M X (pc + 3) L st σ P) : TT g R cl sl M X pc L (.int y :: .int x :: st) σ P := by
  intro p e s m args below meth c H locs ls Q hC hR hP hS hL
  exact lv_icmp_lt hC.1 hC.2.1 hd ht (fun h => kt h p e s m args below meth c H locs ls Q hC hR hP hS hL) (fun h => kf h p e s m args below meth c H locs ls Q hC hR hP hS hL)
theorem q_if_ge {x : Int32} {off : Int} {tgt : Nat} (hd : decode M.2.1 pc = .ok (.ifCond .ge off, 3)) (ht : (pc : Int) + off = (tgt : Int)) (kt : 0 ≤ x → TT g R cl sl M X tgt L st σ P) (kf : ¬ 0 ≤ x → TT g R cl sl M X (pc + 3) L st σ P) : TT g R cl sl M X pc L (.int x :: st) σ P := by
  intro p e s m args below meth c H locs ls Q hC hR hP hS hL
  exact lv_if_ge hC.1 hC.2.1 hd ht (fun h => kt h p e s m args below meth c H locs ls Q hC hR hP hS hL) (fun h => kf h p e s m args below meth c H locs ls Q hC hR hP hS hL)
theorem q_icmp_ge {x y : Int32} {off : Int} {tgt : Nat} (hd : decode M.2.1 pc = .ok (.if_icmp .ge off, 3)) (ht : (pc : Int) + off = (tgt : Int)) (kt : y ≤ x → TT g R cl sl M X tgt L st σ P) (kf : ¬ y ≤ x → TT g R cl sl M X (pc + 3) L st σ P) : TT g R cl sl M X pc L (.int y :: .int x :: st) σ P := by
  intro p e s m args below meth c H locs ls Q hC hR hP hS hL
  exact lv_icmp_ge hC.1 hC.2.1 hd ht (fun h => kt h p e s m args below meth c H locs ls Q hC hR hP hS hL) (fun h => kf h p e s m args below meth c H locs ls Q hC hR hP hS hL)
theorem q_if_gt {x : Int32} {off : Int} {tgt : Nat} (hd : decode M.2.1 pc = .ok (.ifCond .gt off, 3)) (ht : (pc : Int) + off = (tgt : Int)) (kt : 0 < x → TT g R cl sl M X tgt L st σ P) (kf : ¬ 0 < x → TT g R cl sl M X (pc + 3) L st σ P) : TT g R cl sl M X pc L (.int x :: st) σ P := by
  intro p e s m args below meth c H locs ls Q hC hR hP hS hL
  exact lv_if_gt hC.1 hC.2.1 hd ht (fun h => kt h p e s m args below meth c H locs ls Q hC hR hP hS hL) (fun h => kf h p e s m args below meth c H locs ls Q hC hR hP hS hL)
theorem q_icmp_gt {x y : Int32} {off : Int} {tgt : Nat} (hd : decode M.2.1 pc = .ok (.if_icmp .gt off, 3)) (ht : (pc : Int) + off = (tgt : Int)) (kt : y < x → TT g R cl sl M X tgt L st σ P) (kf : ¬ y < x → TT g R cl sl M X (pc + 3) L st σ P) : TT g R cl sl M X pc L (.int y :: .int x :: st) σ P := by
  intro p e s m args below meth c H locs ls Q hC hR hP hS hL
  exact lv_icmp_gt hC.1 hC.2.1 hd ht (fun h => kt h p e s m args below meth c H locs ls Q hC hR hP hS hL) (fun h => kf h p e s m args below meth c H locs ls Q hC hR hP hS hL)
theorem q_if_le {x : Int32} {off : Int} {tgt : Nat} (hd : decode M.2.1 pc = .ok (.ifCond .le off, 3)) (ht : (pc : Int) + off = (tgt : Int)) (kt : x ≤ 0 → TT g R cl sl M X tgt L st σ P) (kf : ¬ x ≤ 0 → TT g R cl sl M X (pc + 3) L st σ P) : TT g R cl sl M X pc L (.int x :: st) σ P := by
  intro p e s m args below meth c H locs ls Q hC hR hP hS hL
  exact lv_if_le hC.1 hC.2.1 hd ht (fun h => kt h p e s m args below meth c H locs ls Q hC hR hP hS hL) (fun h => kf h p e s m args below meth c H locs ls Q hC hR hP hS hL)
theorem q_icmp_le {x y : Int32} {off : Int} {tgt : Nat} (hd : decode M.2.1 pc = .ok (.if_icmp .le off, 3)) (ht : (pc : Int) + off = (tgt : Int)) (kt : x ≤ y → TT g R cl sl M X tgt L st σ P) (kf : ¬ x ≤ y → TT g R cl sl M X (pc + 3) L st σ P) : TT g R cl sl M X pc L (.int y :: .int x :: st) σ P := by
  intro p e s m args below meth c H locs ls Q hC hR hP hS hL
  exact lv_icmp_le hC.1 hC.2.1 hd ht (fun h => kt h p e s m args below meth c H locs ls Q hC hR hP hS hL) (fun h => kf h p e s m args below meth c H locs ls Q hC hR hP hS hL)
theorem q_goto {off : Int} {tgt : Nat} (hd : decode M.2.1 pc = .ok (.goto off, 3)) (ht : (pc : Int) + off = (tgt : Int)) (k : TT g R cl sl M X tgt L st σ P) : TT g R cl sl M X pc L st σ P := by
  intro p e s m args below meth c H locs ls Q hC hR hP hS hL
  exact lv_goto hC.1 hC.2.1 hd ht (k p e s m args below meth c H locs ls Q hC hR hP hS hL)
theorem q_tabIn {dflt lo hi : Int} {offs : Array Int} {len : Nat} {x : Int32} {off : Int} {tgt : Nat} (hd : decode M.2.1 pc = .ok (.tableswitch dflt lo hi offs, len)) (h1 : ¬ x.toInt < lo) (h2 : ¬ hi < x.toInt) (ho : offs[(x.toInt - lo).toNat]? = some off) (ht : (pc : Int) + off = (tgt : Int)) (k : TT g R cl sl M X tgt L st σ P) : TT g R cl sl M X pc L (.int x :: st) σ P := by
  intro p e s m args below meth c H locs ls Q hC hR hP hS hL
  exact lv_tableIn hC.1 hC.2.1 hd h1 h2 ho ht (k p e s m args below meth c H locs ls Q hC hR hP hS hL)
theorem q_tabOut {dflt lo hi : Int} {offs : Array Int} {len : Nat} {x : Int32} {tgt : Nat} (hd : decode M.2.1 pc = .ok (.tableswitch dflt lo hi offs, len)) (h : x.toInt < lo ∨ hi < x.toInt) (ht : (pc : Int) + dflt = (tgt : Int)) (k : TT g R cl sl M X tgt L st σ P) : TT g R cl sl M X pc L (.int x :: st) σ P := by
  intro p e s m args below meth c H locs ls Q hC hR hP hS hL
  exact lv_tableOut hC.1 hC.2.1 hd h ht (k p e s m args below meth c H locs ls Q hC hR hP hS hL)
theorem q_look {dflt : Int} {ps : Array (Int × Int)} {len : Nat} {x : Int32} {off : Int} {tgt : Nat} (hd : decode M.2.1 pc = .ok (.lookupswitch dflt ps, len)) (hp : (ps.toList.zip (ps.toList.drop 1)).all (fun (a, next) => a.1 < next.1) = true) (ho : Op.lookupswitch.offset ps.toList dflt x.toInt = off) (ht : (pc : Int) + off = (tgt : Int)) (k : TT g R cl sl M X tgt L st σ P) : TT g R cl sl M X pc L (.int x :: st) σ P := by
  intro p e s m args below meth c H locs ls Q hC hR hP hS hL
  exact lv_lookup hC.1 hC.2.1 hd hp ho ht (k p e s m args below meth c H locs ls Q hC hR hP hS hL)
end QR
