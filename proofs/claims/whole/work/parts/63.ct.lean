/-! CONSTRUCTORS: a world that grows -/
/-- words that aren't kept by their form: the links of nest mates, the arrays of arrays -/
def vc_nw : List Cond := [.methodLinkNest "ArcadeRents$Arcade" 20 yX3_init "ArcadeRents", .methodLinkNest "ArcadeRents$Arcade" 27 yX10_init "ArcadeRents", .methodLinkNest "ArcadeRents$Arcade" 34 yX7_init "ArcadeRents", .methodLinkNest "ArcadeRents$Arcade" 41 yX5_init "ArcadeRents", .methodLinkNest "ArcadeRents$Arcade" 48 yX4_init "ArcadeRents", .methodLinkNest "ArcadeRents" 21 yX8_init "ArcadeRents", .methodLinkNest "ArcadeRents" 28 yX9_init "ArcadeRents", .methodLinkNest "ArcadeRents" 44 yX1_init "ArcadeRents", .methodLinkNest "ArcadeRents" 51 yX6_init "ArcadeRents"]
def vc_N (s : State) : Prop := (∀ w ∈ vc_nw, va_Nw w s) ∧ va_AOA .int s ∧ va_AOA .short s
theorem vc_nw_ok : ∀ w ∈ vc_nw, ∃ a i x h, w = Cond.methodLinkNest a i x h := by
  intro w hw
  simp only [vc_nw, List.mem_cons, List.not_mem_nil, or_false] at hw
  rcases hw with rfl | rfl | rfl | rfl | rfl | rfl | rfl | rfl | rfl <;> exact ⟨_, _, _, _, rfl⟩
theorem vc_N.moved {s U : State} (hW : s.WarmedH U.vm) (h : vc_N s) : vc_N U := by
  obtain ⟨h1, h2, h3⟩ := h
  refine ⟨fun w hw => ?_, Jvm.Stand.arrayOver_alikeB hW.alike h2, Jvm.Stand.arrayOver_alikeB hW.alike h3⟩
  obtain ⟨a, i, x, n, rfl⟩ := vc_nw_ok w hw
  exact va_Nw.warmM hW (h1 _ hw)
theorem vc_N.same {s U : State} (hv : s.vm = U.vm) (h : vc_N s) : vc_N U := by
  obtain ⟨h1, h2, h3⟩ := h
  have ha : s.vm.Alike U.vm := by rw [hv]; exact Vm.Alike.refl _
  refine ⟨fun w hw => ?_, Jvm.Stand.arrayOver_alikeB ha h2, Jvm.Stand.arrayOver_alikeB ha h3⟩
  obtain ⟨a, i, x, n, rfl⟩ := vc_nw_ok w hw
  exact va_Nw.same rfl hv (h1 _ hw)
def vc_K (g : vt_GT) (s : State) : Prop := va_K g.2.2.2.1 vt_cls (vt_tys g) s ∧ vc_N s
theorem vc_K.moved {g : vt_GT} {s U : State} (hW : s.WarmedH U.vm) (h : vc_K g s) : vc_K g U := ⟨va_K.moved hW.alike h.1, h.2.moved hW⟩
def vc_C (M : vt_MD) (p : Program) (s : State) (m : MethodId) (args : Array Value) (meth : Method) (c : Code) : Prop :=
  p.tables.exec = Jvm.exec ∧ c.code = M.2.1 ∧ c.maxLocals = M.2.2.1 ∧ s.vm.findClass M.1.cls = some m.cls ∧ (∀ w ∈ vt_tbl, w.before args s = true) ∧ meth.name = M.1.name
/-- from pc with the world ws, cl cells of sl slots made so far, the method comes to its return with mc cells of ms slots, and P holds of the world there -/
def CT (g : vt_GT) (R : Room) (mc ms : Nat) (M : vt_MD) (pc : Nat) (L : List (Option Value)) (st : List Value) (ws : va_W) (cl sl : Nat) (P : va_W → Prop) : Prop :=
  ∀ (p : Program) (e : Env) (s : State) (m : MethodId) (args : Array Value) (below : List Frame) (meth : Method) (c : Code) (H : Heap) (locs : List Loc) (ls : Array Slot) (Q : State → Prop) (A : Nat → Prop),
    vc_C M p s m args meth c → vc_K g s → (∀ q, s.heap.size ≤ q → A q) →
    (∀ (ws' : va_W) (H' : Heap) (locs' : List Loc) (pc' : Nat) (ls' : Array Slot), P ws' → va_P g.2.2.2.1 vt_cls ws' H' → va_D A ws' → va_S A s.heap H' locs' → decode M.2.1 pc' = .ok (.return_, 1) → W p g.1 e R s m args below meth c H' locs' mc ms Q (F0 m pc' ls' [])) →
    va_P g.2.2.2.1 vt_cls ws H → va_D A ws → va_S A s.heap H locs → vt_L M.2.2.1 ls L → W p g.1 e R s m args below meth c H locs cl sl Q (F0 m pc ls st)
abbrev vc_R (d mc ms : Nat) : Room := { frames := d, cells := mc, slots := ms, locals := 48 * d }
def vc_M (g : vt_GT) (d mc ms : Nat) (D : vt_MD) (As : List Value) (wc : va_W) (P : va_W → Prop) : Prop :=
  ∀ sz : Nat, Met g.1 D.1 (vt_ws D) (vc_R d mc ms) (va_Pc As (fun U => U.heap.size = sz ∧ va_P g.2.2.2.1 vt_cls wc U.heap ∧ vc_K g U ∧ va_D (fun _ => True) wc)) (va_Qv P (fun w1 t => va_P g.2.2.2.1 vt_cls w1 t.heap ∧ va_D (va_A wc sz) w1) (va_A wc sz)) mc ms (va_A wc sz)
section CTR
variable {g : vt_GT} {R : Room} {mc ms : Nat} {M : vt_MD} {pc : Nat} {L L' : List (Option Value)} {st : List Value} {ws : va_W} {cl sl : Nat} {P : va_W → Prop}
theorem k_aload_n {i : Fin 4} {x : Nat} (hd : decode M.2.1 pc = .ok (.aload_n i, 1)) (hl : L[(i : Nat)]? = some (some (.ref x))) (k : CT g R mc ms M (pc + 1) L (.ref x :: st) ws cl sl P) : CT g R mc ms M pc L st ws cl sl P := by
  intro p e s m args below meth c H locs ls Q A hC hK hA hR hP hD hS hL
  exact lv_aload_n hC.1 hC.2.1 hd rfl (hL.2.2.2 _ _ hl) (k p e s m args below meth c H locs ls Q A hC hK hA hR hP hD hS hL)
theorem k_iload_n {i : Fin 4} {x : Int32} (hd : decode M.2.1 pc = .ok (.iload_n i, 1)) (hl : L[(i : Nat)]? = some (some (.int x))) (k : CT g R mc ms M (pc + 1) L (.int x :: st) ws cl sl P) : CT g R mc ms M pc L st ws cl sl P := by
  intro p e s m args below meth c H locs ls Q A hC hK hA hR hP hD hS hL
  exact lv_iload_n hC.1 hC.2.1 hd rfl (hL.2.2.2 _ _ hl) (k p e s m args below meth c H locs ls Q A hC hK hA hR hP hD hS hL)
theorem k_iconst {n : Int} {v : Int32} (hd : decode M.2.1 pc = .ok (.iconst n, 1)) (hv : Int32.ofInt n = v) (k : CT g R mc ms M (pc + 1) L (.int v :: st) ws cl sl P) : CT g R mc ms M pc L st ws cl sl P := by
  intro p e s m args below meth c H locs ls Q A hC hK hA hR hP hD hS hL
  exact lv_iconst hC.1 hC.2.1 hd hv (k p e s m args below meth c H locs ls Q A hC hK hA hR hP hD hS hL)
theorem k_bipush {n : Int} {v : Int32} (hd : decode M.2.1 pc = .ok (.bipush n, 2)) (hv : (Int8.ofInt n).toInt32 = v) (k : CT g R mc ms M (pc + 2) L (.int v :: st) ws cl sl P) : CT g R mc ms M pc L st ws cl sl P := by
  intro p e s m args below meth c H locs ls Q A hC hK hA hR hP hD hS hL
  exact lv_bipush hC.1 hC.2.1 hd hv (k p e s m args below meth c H locs ls Q A hC hK hA hR hP hD hS hL)
theorem k_sipush {n : Int} {v : Int32} (hd : decode M.2.1 pc = .ok (.sipush n, 3)) (hv : (Int16.ofInt n).toInt32 = v) (k : CT g R mc ms M (pc + 3) L (.int v :: st) ws cl sl P) : CT g R mc ms M pc L st ws cl sl P := by
  intro p e s m args below meth c H locs ls Q A hC hK hA hR hP hD hS hL
  exact lv_sipush hC.1 hC.2.1 hd hv (k p e s m args below meth c H locs ls Q A hC hK hA hR hP hD hS hL)
theorem k_dup {x : Value} (hd : decode M.2.1 pc = .ok (.dup, 1)) (hc : x.category = 1) (k : CT g R mc ms M (pc + 1) L (x :: x :: st) ws cl sl P) : CT g R mc ms M pc L (x :: st) ws cl sl P := by
  intro p e s m args below meth c H locs ls Q A hC hK hA hR hP hD hS hL
  exact lv_dup hC.1 hC.2.1 hd hc (k p e s m args below meth c H locs ls Q A hC hK hA hR hP hD hS hL)
theorem k_iadd {x y : Int32} (hd : decode M.2.1 pc = .ok (.iadd, 1)) (k : CT g R mc ms M (pc + 1) L (.int (x + y) :: st) ws cl sl P) : CT g R mc ms M pc L (.int y :: .int x :: st) ws cl sl P := by
  intro p e s m args below meth c H locs ls Q A hC hK hA hR hP hD hS hL
  exact lv_iadd hC.1 hC.2.1 hd (k p e s m args below meth c H locs ls Q A hC hK hA hR hP hD hS hL)
theorem k_istore_n {i : Fin 4} {x : Int32} (hd : decode M.2.1 pc = .ok (.istore_n i, 1)) (hi : (i : Nat) < M.2.2.1) (ho : vt_okL L (i : Nat) = true) (hs : L.set (i : Nat) (some (.int x)) = L') (k : CT g R mc ms M (pc + 1) L' st ws cl sl P) : CT g R mc ms M pc L (.int x :: st) ws cl sl P := by
  intro p e s m args below meth c H locs ls Q A hC hK hA hR hP hD hS hL
  subst hs
  exact lv_istore_n hC.1 hC.2.1 hd rfl (vt_lvh hL) hi rfl (fun ls' hl' => k p e s m args below meth c H locs ls' Q A hC hK hA hR hP hD hS (vt_lvs hL.2.1 hi (vt_okL_use ho) hl'))
theorem k_iinc {i : Nat} {n : Int} {x : Int32} (hd : decode M.2.1 pc = .ok (.iinc i n, 3)) (hl : L[i]? = some (some (.int x))) (hi : i < M.2.2.1) (ho : vt_okL L i = true) (hs : L.set i (some (.int (x + Int32.ofInt n))) = L') (k : CT g R mc ms M (pc + 3) L' st ws cl sl P) : CT g R mc ms M pc L st ws cl sl P := by
  intro p e s m args below meth c H locs ls Q A hC hK hA hR hP hD hS hL
  subst hs
  have hm : (i, Value.int x) ∈ L.zipIdx.filterMap (fun q => q.1.map (fun z => (q.2, z))) := List.mem_filterMap.mpr ⟨(some (.int x), i), List.mem_zipIdx_iff_getElem?.mpr hl, rfl⟩
  obtain ⟨k0, hk0⟩ := List.getElem?_of_mem hm
  exact lv_iinc hC.1 hC.2.1 hd (vt_lvh hL) hk0 rfl hi rfl (fun ls' hl' => k p e s m args below meth c H locs ls' Q A hC hK hA hR hP hD hS (vt_lvs hL.2.1 hi (vt_okL_use ho) hl'))
theorem k_icmp_ge {x y : Int32} {off : Int} {tgt : Nat} (hd : decode M.2.1 pc = .ok (.if_icmp .ge off, 3)) (ht : (pc : Int) + off = (tgt : Int)) (kt : y ≤ x → CT g R mc ms M tgt L st ws cl sl P) (kf : ¬ y ≤ x → CT g R mc ms M (pc + 3) L st ws cl sl P) : CT g R mc ms M pc L (.int y :: .int x :: st) ws cl sl P := by
  intro p e s m args below meth c H locs ls Q A hC hK hA hR hP hD hS hL
  exact lv_icmp_ge hC.1 hC.2.1 hd ht (fun h => kt h p e s m args below meth c H locs ls Q A hC hK hA hR hP hD hS hL) (fun h => kf h p e s m args below meth c H locs ls Q A hC hK hA hR hP hD hS hL)
theorem k_goto {off : Int} {tgt : Nat} (hd : decode M.2.1 pc = .ok (.goto off, 3)) (ht : (pc : Int) + off = (tgt : Int)) (k : CT g R mc ms M tgt L st ws cl sl P) : CT g R mc ms M pc L st ws cl sl P := by
  intro p e s m args below meth c H locs ls Q A hC hK hA hR hP hD hS hL
  exact lv_goto hC.1 hC.2.1 hd ht (k p e s m args below meth c H locs ls Q A hC hK hA hR hP hD hS hL)
theorem k_ret (hd : decode M.2.1 pc = .ok (.return_, 1)) (h1 : cl = mc) (h2 : sl = ms) (h : P ws) : CT g R mc ms M pc L [] ws cl sl P := by
  intro p e s m args below meth c H locs ls Q A hC hK hA hR hP hD hS hL
  subst h1
  subst h2
  exact hR ws H locs pc ls h hP hD hS hd
theorem k_obj {idx a : Nat} (hd : decode M.2.1 pc = .ok (.invokespecial idx, 3)) (hl : Cond.methodLink M.1.cls idx objectInit ∈ vt_tbl) (hi : Cond.instanceMethod objectInit ∈ vt_tbl) (hc : Cond.code objectInit ⟨#[0xb1]⟩ 1 none ∈ vt_tbl) (hf : 1 ≤ R.frames) (hlo : 12 ≤ R.locals) (k : CT g R mc ms M (pc + 3) L [] ws cl sl P) : CT g R mc ms M pc L [.ref a] ws cl sl P := by
  intro p e s m args below meth c H locs ls Q A hC hK hA hR hP hD hS hL
  refine W.objInit hC.1 hC.2.1 hC.2.2.2.1 (hC.2.2.2.2.1 _ hl) (hC.2.2.2.2.1 _ hi) (hC.2.2.2.2.1 _ hc) rfl (by rw [hC.2.2.1]; exact hL.1) (rest := []) rfl hd hf hlo ?_
  exact W.eq (g2 := F0 m (pc + 3) ls []) rfl (k p e s m args below meth c H locs ls Q A hC hK hA hR hP hD hS hL)
/-- an array's class is the one that the tables name -/
theorem vc_cls {s : State} {cA c0 : ClassId} {ty : FieldType} {t0 : Nat} (hra : ∀ c, va_RA s c ty → s.vm.findClass ("[" ++ ty.toString) = some c) (hK : va_K g.2.2.2.1 vt_cls (vt_tys g ++ [(cA, ty)]) s) (ht : (vt_tys g)[t0]? = some (c0, ty)) : cA = c0 := by
  have hl := (List.getElem?_eq_some_iff.mp ht).1
  have h1 := hra _ (hK.2 t0 (c0, ty) (by rw [List.getElem?_append_left hl]; exact ht)).2
  have h2 := hra _ (hK.2 (vt_tys g).length (cA, ty) (by rw [List.getElem?_append_right (Nat.le_refl _), Nat.sub_self]; rfl)).2
  exact Option.some.inj (h2.symm.trans h1)
theorem k_newa {atype : ArrayType} {ty : FieldType} (t0 : Nat) {n : Int32} {N : Nat} {a0 : vp_A} {c0 : ClassId} (hd : decode M.2.1 pc = .ok (.newarray atype, 2)) (harr : Cond.arrayClass (newarray.typeOf atype) ∈ vt_tbl) (hty : newarray.typeOf atype = ty) (hra : ∀ (s : State) c, va_RA s c ty → s.vm.findClass ("[" ++ ty.toString) = some c) (ht : (vt_tys g)[t0]? = some (c0, ty)) (ha : ∀ cA : ClassId, vp_cell cA a0 = arrV cA N (fun _ => defaultValue ty)) (hn : ¬ n < 0) (hN : n.toNatClampNeg = N) (hb : N * componentBytes ty ≤ 536870912) (h1 : cl + 1 ≤ R.cells) (h2 : sl + N ≤ R.slots) (k : ∀ q : Nat, CT g R mc ms M (pc + 2) L (.ref q :: st) (ws ++ [(q, .inl (c0, a0))]) (cl + 1) (sl + N) P) : CT g R mc ms M pc L (.int n :: st) ws cl sl P := by
  intro p e s m args below meth c H locs ls Q A hC hK hA hR hP hD hS hL
  refine va_newa hC.1 hC.2.1 (hC.2.2.2.2.1 _ harr) hty hK.1 hP hD hS hA ha hn hN hb h1 h2 hd (fun q cA H1 hK1 hP1 hD1 hS1 => ?_)
  have := vc_cls (hra s) hK1 ht
  subst this
  exact k q p e s m args below meth c H1 locs ls Q A hC hK hA hR hP1 hD1 hS1 hL
theorem k_new {index ci N : Nat} {C : String} {T : u_T} {ty : Nat → FieldType} {fs : List Value} (hd : decode M.2.1 pc = .ok (.new index, 3)) (hin : ∀ w ∈ u_ws C T N, w ∈ vt_tbl) (hty : ∀ k, k < N → parseFieldDescriptor (T k).2.2.1 = some (ty k)) (hcl : Cond.classLink M.1.cls index C ∈ vt_tbl) (hinst : Cond.instantiable C N ∈ vt_tbl) (hini : Cond.initialized C ∈ vt_tbl) (hc : vt_cls[ci]? = some (C, T, N)) (hfs : ∀ j, j < N → defaultValue (ty j) = vp_V fs j) (h1 : cl + 1 ≤ R.cells) (h2 : sl + N ≤ R.slots) (k : ∀ q : Nat, CT g R mc ms M (pc + 3) L (.ref q :: st) (ws ++ [(q, .inr (ci, fs))]) (cl + 1) (sl + N) P) : CT g R mc ms M pc L st ws cl sl P := by
  intro p e s m args below meth c H locs ls Q A hC hK hA hR hP hD hS hL
  exact va_new hC.1 hC.2.1 hC.2.2.2.2.1 hin ty hty hC.2.2.2.1 (hC.2.2.2.2.1 _ hcl) (hC.2.2.2.2.1 _ hinst) (hC.2.2.2.2.1 _ hini) hK.1 hP hD hS hA hc hfs h1 h2 hd (fun q H1 hP1 hD1 hS1 => k q p e s m args below meth c H1 locs ls Q A hC hK hA hR hP1 hD1 hS1 hL)
/-- a final field of the object at the world's head -/
theorem k_putF {index ci N j a : Nat} {C : String} {T : u_T} {ty0 : Nat → FieldType} {ty : FieldType} {v : Value} {fs fs' : List Value} {wr : va_W} (hd : decode M.2.1 pc = .ok (.putfield index, 3)) (hn : M.1.name = "<init>") (hin : ∀ w ∈ u_ws C T N, w ∈ vt_tbl) (hty : ∀ k, k < N → parseFieldDescriptor (T k).2.2.1 = some (ty0 k)) (hnm : ∀ a, a < N → ∀ b, b < N → a ≠ b → (T a).2.1 ≠ (T b).2.1) (hc : vt_cls[ci]? = some (C, T, N)) (hj : j < N) (hl : Cond.fieldLink M.1.cls index C (T j).2.1 (T j).2.2.1 ∈ vt_tbl) (hown : (T j).1 = C) (hown2 : C = M.1.cls) (hfin : (T j).2.2.2 = true) (hd2 : parseFieldDescriptor (T j).2.2.1 = some ty) (hnv : narrow ty v = v) (hfit : fits ty v = true) (hlen : j < fs.length) (hs : fs.set j v = fs') (k : CT g R mc ms M (pc + 3) L st ((a, .inr (ci, fs')) :: wr) cl sl P) : CT g R mc ms M pc L (v :: .ref a :: st) ((a, .inr (ci, fs)) :: wr) cl sl P := by
  intro p e s m args below meth c H locs ls Q A hC hK hA hR hP hD hS hL
  subst hs
  refine va_putF hC.1 hC.2.1 hC.2.2.2.2.1 hin ty0 hty hnm hC.2.2.2.1 hK.1 hP hD hS 0 rfl hc j hj (hC.2.2.2.2.1 _ hl) (fun x h => by rw [hown] at h; exact h) hfin (by rw [hC.2.2.2.2.2]; exact hn) (by rw [hown]; exact hown2) hd2 hnv hfit hlen hd (fun H1 locs1 hP1 hD1 hS1 => ?_)
  exact k p e s m args below meth c H1 locs1 ls Q A hC hK hA hR hP1 hD1 hS1 hL
/-- a field of the object at the world's head -/
theorem k_get {index ci N j a : Nat} {C : String} {T : u_T} {v : Value} {fs : List Value} (hd : decode M.2.1 pc = .ok (.getfield index, 3)) (he : ws[0]? = some (a, .inr (ci, fs))) (hin : ∀ w ∈ u_ws C T N, w ∈ vt_tbl) (hc : vt_cls[ci]? = some (C, T, N)) (hj : j < N) (hl : Cond.fieldLink M.1.cls index C (T j).2.1 (T j).2.2.1 ∈ vt_tbl) (hown : (T j).1 = C) (hv : fs[j]? = some v) (k : CT g R mc ms M (pc + 3) L (v :: st) ws cl sl P) : CT g R mc ms M pc L (.ref a :: st) ws cl sl P := by
  intro p e s m args below meth c H locs ls Q A hC hK hA hR hP hD hS hL
  exact va_get hC.1 hC.2.1 hC.2.2.2.2.1 hin hC.2.2.2.1 hK.1 hP 0 he hc j hj (hC.2.2.2.2.1 _ hl) (fun x h => by rw [hown] at h; exact h) hv hd (k p e s m args below meth c H locs ls Q A hC hK hA hR hP hD hS hL)
theorem k_iast {n a : Nat} {f : Nat → Int32} {i x : Int32} {ws' : va_W} (q0 : Nat) (hd : decode M.2.1 pc = .ok (.iastore, 1)) (he : ws[q0]? = some (a, .inl (g.2.2.1 0, n, .inl f))) (hin : vp_in i n) (hs : ws.set q0 (a, .inl (g.2.2.1 0, n, .inl (upd f i.toNatClampNeg x))) = ws') (k : CT g R mc ms M (pc + 1) L st ws' cl sl P) : CT g R mc ms M pc L (.int x :: .int i :: .ref a :: st) ws cl sl P := by
  intro p e s m args below meth c H locs ls Q A hC hK hA hR hP hD hS hL
  subst hs
  exact va_iast (tys := vt_tys g) hC.1 hC.2.1 hK.1 hP hD hS q0 0 he rfl hin hd (fun H1 locs1 hP1 hD1 hS1 => k p e s m args below meth c H1 locs1 ls Q A hC hK hA hR hP1 hD1 hS1 hL)
theorem k_alen {n a : Nat} {f : Nat → Int32} (q0 : Nat) (hd : decode M.2.1 pc = .ok (.arraylength, 1)) (he : ws[q0]? = some (a, .inl (g.2.2.1 0, n, .inl f))) (k : CT g R mc ms M (pc + 1) L (.int (nI n) :: st) ws cl sl P) : CT g R mc ms M pc L (.ref a :: st) ws cl sl P := by
  intro p e s m args below meth c H locs ls Q A hC hK hA hR hP hD hS hL
  exact va_alen (tys := vt_tys g) (x := (n, .inl f)) hC.1 hC.2.1 hK.1 hP q0 0 he rfl rfl hd (k p e s m args below meth c H locs ls Q A hC hK hA hR hP hD hS hL)
theorem vc_pl {L0 : List Nat} {e : va_E} {f : Nat → va_E} : va_pl L0 (vr_up f L0 e) = L0.map (fun a => (a, e)) := by
  unfold va_pl
  refine List.map_congr_left (fun a ha => ?_)
  have : vr_up f L0 e a = e := if_pos ha
  rw [this]
theorem k_mna {index : Nat} {ty : FieldType} {n k0 : Int32} {N K t0 t1 : Nat} {z : vp_A} {c0 c1 : ClassId} (hd : decode M.2.1 pc = .ok (.multianewarray index 2, 4)) (hcl : Cond.classLink M.1.cls index ("[" ++ (FieldType.array ty).toString) ∈ vt_tbl) (hov : ∀ s, vc_N s → va_AOA ty s) (harr : Cond.arrayClass ty ∈ vt_tbl) (hra0 : ∀ (s : State) c, va_RA s c ty → s.vm.findClass (FieldType.array ty).toString = some c) (hra1 : ∀ (s : State) c, va_RA s c (.array ty) → s.vm.findClass ("[" ++ (FieldType.array ty).toString) = some c) (ht0 : (vt_tys g)[t0]? = some (c0, ty)) (ht1 : (vt_tys g)[t1]? = some (c1, .array ty))
    (hn : ¬ n < 0) (hk : ¬ k0 < 0) (hN : n.toNatClampNeg = N) (hM : k0.toNatClampNeg = K) (hb1 : N * 4 ≤ 536870912) (hb2 : K * componentBytes ty ≤ 536870912) (hb3 : K ≤ 536870912) (hdf : fits ty (defaultValue ty) = true) (hdd : (defaultValue ty).isDefault = true) (h1 : cl + (1 + N) ≤ R.cells) (h2 : sl + (N + N * K) ≤ R.slots) (hz : ∀ c : ClassId, Jvm.Free.Multi.innerC c K (defaultValue ty) = vp_cell c z)
    (k : ∀ (q : Nat) (r : Nat → Nat), CT g R mc ms M (pc + 4) L (.ref q :: st) (ws ++ ((q, .inl (c1, N, .inr (.inr (.inr (.inr (fun i => if i < N then some (r i) else none)))))) :: (List.range N).map (fun i => (r i, .inl (c0, z))))) (cl + 1 + N) (sl + N + N * K) P) : CT g R mc ms M pc L (.int k0 :: .int n :: st) ws cl sl P := by
  intro p e s m args below meth c H locs ls Q A hC hK hA hR hP hD hS hL
  have e0 : ws ++ va_pl [] (fun _ => .inl (c0, z)) = ws := List.append_nil _
  refine va_mna (X := ws) (L := []) (f := fun _ => .inl (c0, z)) (cy := c0) (ty := ty) hC.1 hC.2.1 hC.2.2.2.1 (hC.2.2.2.2.1 _ hcl) (hov s hK.2) (hC.2.2.2.2.1 _ harr) (hra0 s c0 (hK.1.2 t0 _ ht0).2) hK.1 (by rw [e0]; exact hP) (by rw [e0]; exact hD) hS hA hn hk hN hM hb1 hb2 hb3 hdf hdd h1 h2 hz hd (fun q r cA H1 _ _ hK1 hP1 hD1 hS1 => ?_)
  have := vc_cls (hra1 s) hK1 ht1
  subst this
  rw [List.nil_append, vc_pl, List.map_map, List.append_assoc] at hP1 hD1
  exact k q r p e s m args below meth c H1 locs ls Q A hC hK hA hR hP1 hD1 hS1 hL
/-- behind a call: the callee's part stands at the end -/
theorem vc_join {A0 : Nat → Prop} {D : va_G} {cl : List vw_C} {wr wc w1 : va_W} {H H1 : Heap} (hP : va_P D cl (wr ++ wc) H) (hD : va_D A0 (wr ++ wc)) (hk : ∀ q : Nat, q < H.size → ¬ va_A wc H.size q → H1[q]? = H[q]?) (hF : ∀ q, va_A wc H.size q → A0 q) (hP1 : va_P D cl w1 H1) (hD1 : va_D (va_A wc H.size) w1) : va_P D cl (wr ++ w1) H1 ∧ va_D A0 (wr ++ w1) := by
  have at' : ∀ (k : Nat) (q : Nat × va_E), wr[k]? = some q → (wr ++ wc)[k]? = some q := fun k q h => by rw [List.getElem?_append_left (List.getElem?_eq_some_iff.mp h).1]; exact h
  have apart : ∀ (k : Nat) (q : Nat × va_E), wr[k]? = some q → q.1 < H.size ∧ ¬ va_A wc H.size q.1 := by
    intro k q hq
    have h2 := at' k q hq
    have hl := (hP k q h2).lt
    refine ⟨hl, fun h => ?_⟩
    rcases h with ⟨k2, e, h⟩ | h
    · have h4 : (wr ++ wc)[wr.length + k2]? = some (q.1, e) := by rw [List.getElem?_append_right (by omega), Nat.add_sub_cancel_left]; exact h
      have hij := hD.1 k (wr.length + k2) q (q.1, e) h2 h4 rfl
      have := (List.getElem?_eq_some_iff.mp hq).1
      omega
    · omega
  refine ⟨va_P.app (fun k q hq => ?_) hP1, va_D.app ⟨fun i j x y hi hj hxy => hD.1 i j x y (at' i x hi) (at' j y hj) hxy, fun k q hq => hD.2 k q (at' k q hq)⟩ (hD1.weaken (fun k q _ h => hF q.1 h)) (fun i j x y hx hy hxy => ?_)⟩
  · obtain ⟨g1, g2⟩ := apart k q hq
    exact (hP k q (at' k q hq)).kept (hk q.1 g1 g2)
  · exact (apart i x hx).2 (by rw [hxy]; exact hD1.2 j y hy)
theorem vc_free {A0 : Nat → Prop} {wr wc : va_W} {H0 H : Heap} {locs : List Loc} (hD : va_D A0 (wr ++ wc)) (hS : va_S A0 H0 H locs) (hA : ∀ q, H0.size ≤ q → A0 q) : ∀ q, va_A wc H.size q → A0 q := by
  intro q h
  rcases h with ⟨k, e, h⟩ | h
  · exact hD.2 (wr.length + k) (q, e) (by rw [List.getElem?_append_right (by omega), Nat.add_sub_cancel_left]; exact h)
  · exact hA q (Nat.le_trans hS.1 h)
theorem vc_blind {As : List Value} {wc : va_W} {sz : Nat} : FrameBlind (va_Pc As (fun U => U.heap.size = sz ∧ va_P g.2.2.2.1 vt_cls wc U.heap ∧ vc_K g U ∧ va_D (fun _ => True) wc)) := by
  intro a U f mk q
  obtain ⟨q0, q1, qP, qK, qD⟩ := q
  exact ⟨q0, q1, qP, ⟨va_K.moved (u := U) (U := U.calling f mk a) (Vm.Alike.refl U.vm) qK.1, vc_N.same (s := U) (U := U.calling f mk a) rfl qK.2⟩, qD⟩
theorem vc_goodIn (D : vt_MD) (hc : Cond.code D.1 D.2.1 D.2.2.1 D.2.2.2 ∈ vt_tbl) : GoodIn vt_tbl (vt_ws D) := vt_goodIn (fun w hw => by
  rcases List.mem_cons.mp hw with rfl | h
  · exact hc
  · exact h)
/-- a constructor is called -/
theorem k_init {index d' mc' ms' b : Nat} {D : vt_MD} {As rest stk : List Value} {e0 : va_E} {wr : va_W} {P' : va_W → Prop} (hd : decode M.2.1 pc = .ok (.invokespecial index, 3)) (hcode : Cond.code D.1 D.2.1 D.2.2.1 D.2.2.2 ∈ vt_tbl) (hret : D.2.2.2 = none) (hini : Cond.initialized D.1.cls ∈ vt_tbl) (hl : Cond.methodLink M.1.cls index D.1 ∈ vt_tbl) (him : Cond.instanceMethod D.1 ∈ vt_tbl) (hnm : D.1.name = "<init>") (hdd : D.1.cls ≠ "java/lang/invoke/MethodHandle" ∧ D.1.cls ≠ "java/lang/invoke/VarHandle" ∧ (parseMethodDescriptor D.1.desc).map (fun d => d.parameters.length) = some As.length) (hml : D.2.2.1 ≤ 29) (hst : stk = As.reverse ++ .ref b :: rest) (hcat : (rest.map fun v => v.category).sum ≤ 8) (hro : d' + 1 ≤ R.frames ∧ 48 + 48 * d' ≤ R.locals) (h1 : cl + mc' ≤ R.cells) (h2 : sl + ms' ≤ R.slots) (hM : vc_M g d' mc' ms' D (.ref b :: As) [(b, e0)] P') (k : ∀ w1, P' w1 → CT g R mc ms M (pc + 3) L rest (wr ++ w1) (cl + mc') (sl + ms') P) : CT g R mc ms M pc L stk (wr ++ [(b, e0)]) cl sl P := by
  intro p e s m args below meth c H locs ls Q A hC hK hA hR hP hD hS hL
  have hF := vc_free hD hS hA
  have hw : vt_ws D = Cond.code D.1 D.2.1 D.2.2.1 none :: vt_tbl := by unfold vt_ws; rw [hret]
  refine va_callv (va_runI (As := As) (rest := rest) (bytes := D.2.1) (maxL := D.2.2.1) ⟨hC.1, hC.2.1, hC.2.2.1, hC.2.2.2.1, hC.2.2.2.2.1⟩ (hM H.size) (cwI As.length hC.2.2.2.2.1 (vc_goodIn D hcode) hw rfl rfl (hC.2.2.2.2.1 _ hini) (hC.2.2.2.2.1 _ hl) (hC.2.2.2.2.1 _ him) hnm hdd ⟨hro.1, by show 8 + (D.2.2.1 + 11) + 48 * d' ≤ _; omega⟩) ⟨vc_blind, fun U hU hW => ⟨rfl, by rw [hU], by rw [hU]; exact fun k q hq => hP (wr.length + k) q (by rw [List.getElem?_append_right (by omega), Nat.add_sub_cancel_left]; exact hq), vc_K.moved hW hK, ⟨fun i j x y hi hj _ => ?_, fun _ _ _ => trivial⟩⟩⟩ rfl rfl hL.1 hst (lv_room hcat) hd ⟨h1, h2⟩) hS (fun q _ h => hF q h) hF (fun w1 t H1 locs1 ht hvm hw1 hB hz1 hk1 hS1 => ?_)
  · have := (List.getElem?_eq_some_iff.mp hi).1
    have := (List.getElem?_eq_some_iff.mp hj).1
    simp only [List.length_cons, List.length_nil] at *
    omega
  · obtain ⟨hP1, hD1⟩ := hB
    rw [ht] at hP1
    obtain ⟨hP2, hD2⟩ := vc_join hP hD hk1 hF hP1 hD1
    exact k w1 hw1 p e s m args below meth c H1 locs1 ls Q A hC hK hA hR hP2 hD2 hS1 hL
/-- a nest mate's -/
theorem k_initN {index d' mc' ms' b : Nat} {D : vt_MD} {As rest stk : List Value} {e0 : va_E} {wr : va_W} {P' : va_W → Prop} {host : String} (hd : decode M.2.1 pc = .ok (.invokespecial index, 3)) (hcode : Cond.code D.1 D.2.1 D.2.2.1 D.2.2.2 ∈ vt_tbl) (hret : D.2.2.2 = none) (hini : Cond.initialized D.1.cls ∈ vt_tbl) (hl : Cond.methodLinkNest M.1.cls index D.1 host ∈ vc_nw) (him : Cond.instanceMethod D.1 ∈ vt_tbl) (hnm : D.1.name = "<init>") (hdd : D.1.cls ≠ "java/lang/invoke/MethodHandle" ∧ D.1.cls ≠ "java/lang/invoke/VarHandle" ∧ (parseMethodDescriptor D.1.desc).map (fun d => d.parameters.length) = some As.length) (hml : D.2.2.1 ≤ 29) (hst : stk = As.reverse ++ .ref b :: rest) (hcat : (rest.map fun v => v.category).sum ≤ 8) (hro : d' + 1 ≤ R.frames ∧ 48 + 48 * d' ≤ R.locals) (h1 : cl + mc' ≤ R.cells) (h2 : sl + ms' ≤ R.slots) (hM : vc_M g d' mc' ms' D (.ref b :: As) [(b, e0)] P') (k : ∀ w1, P' w1 → CT g R mc ms M (pc + 3) L rest (wr ++ w1) (cl + mc') (sl + ms') P) : CT g R mc ms M pc L stk (wr ++ [(b, e0)]) cl sl P := by
  intro p e s m args below meth c H locs ls Q A hC hK hA hR hP hD hS hL
  have hF := vc_free hD hS hA
  have hw : vt_ws D = Cond.code D.1 D.2.1 D.2.2.1 none :: vt_tbl := by unfold vt_ws; rw [hret]
  refine va_callv (va_runIN (As := As) (rest := rest) (bytes := D.2.1) (maxL := D.2.2.1) (Ts := vt_tbl) (host := host) ⟨hC.1, hC.2.1, hC.2.2.1, hC.2.2.2.1, hC.2.2.2.2.1⟩ (hM H.size) ⟨va_cnB As.length hC.2.2.2.2.1 (vc_goodIn D hcode) hw rfl rfl (hK.2.1 _ hl) (hC.2.2.2.2.1 _ hini) hdd ⟨hro.1, by show 8 + (D.2.2.1 + 11) + 48 * d' ≤ _; omega⟩, hnm, hC.2.2.2.2.1 _ him⟩ ⟨vc_blind, fun U hU hW => ⟨rfl, by rw [hU], by rw [hU]; exact fun k q hq => hP (wr.length + k) q (by rw [List.getElem?_append_right (by omega), Nat.add_sub_cancel_left]; exact hq), vc_K.moved hW hK, ⟨fun i j x y hi hj _ => ?_, fun _ _ _ => trivial⟩⟩⟩ rfl rfl hL.1 hst (lv_room hcat) hd ⟨h1, h2⟩) hS (fun q _ h => hF q h) hF (fun w1 t H1 locs1 ht hvm hw1 hB hz1 hk1 hS1 => ?_)
  · have := (List.getElem?_eq_some_iff.mp hi).1
    have := (List.getElem?_eq_some_iff.mp hj).1
    simp only [List.length_cons, List.length_nil] at *
    omega
  · obtain ⟨hP1, hD1⟩ := hB
    rw [ht] at hP1
    obtain ⟨hP2, hD2⟩ := vc_join hP hD hk1 hF hP1 hD1
    exact k w1 hw1 p e s m args below meth c H1 locs1 ls Q A hC hK hA hR hP2 hD2 hS1 hL
/-- a static method changes the contents of one cell -/
theorem k_static {index d' a q0 : Nat} {D : vt_MD} {As rest stk : List Value} {e0 e1 : va_E} (hd : decode M.2.1 pc = .ok (.invokestatic index, 3)) (hcode : Cond.code D.1 D.2.1 D.2.2.1 D.2.2.2 ∈ vt_tbl) (hini : Cond.initialized D.1.cls ∈ vt_tbl) (hl : Cond.methodLink M.1.cls index D.1 ∈ vt_tbl) (hstt : Cond.static D.1 ∈ vt_tbl) (hdd : D.1.cls ≠ "java/lang/invoke/MethodHandle" ∧ D.1.cls ≠ "java/lang/invoke/VarHandle" ∧ (parseMethodDescriptor D.1.desc).map (fun d => d.parameters.length) = some As.length) (hml : D.2.2.1 ≤ 29) (hst : stk = As.reverse ++ rest) (hcat : (rest.map fun v => v.category).sum ≤ 8) (hro : d' + 1 ≤ R.frames ∧ 48 + 48 * d' ≤ R.locals) (h1 : cl ≤ R.cells) (h2 : sl ≤ R.slots) (he : ws[q0]? = some (a, e0)) (hM : vc_M g d' 0 0 D As [(a, e0)] (fun w1 => w1 = [(a, e1)])) (k : CT g R mc ms M (pc + 3) L rest (ws.set q0 (a, e1)) cl sl P) : CT g R mc ms M pc L stk ws cl sl P := by
  intro p e s m args below meth c H locs ls Q A hC hK hA hR hP hD hS hL
  have hF : ∀ q, va_A [(a, e0)] H.size q → A q := by
    intro q h
    rcases h with ⟨k, x, h⟩ | h
    · match k, h with
      | 0, h => cases h; exact hD.2 q0 _ he
    · exact hA q (Nat.le_trans hS.1 h)
  have hPa : va_P g.2.2.2.1 vt_cls [(a, e0)] H := by
    intro k q hq
    match k, hq with
    | 0, hq => cases hq; exact hP q0 _ he
  refine va_callv (va_runS (As := As) (rest := rest) (bytes := D.2.1) (maxL := D.2.2.1) (ret := D.2.2.2) ⟨hC.1, hC.2.1, hC.2.2.1, hC.2.2.2.1, hC.2.2.2.2.1⟩ (hM H.size) (va_cwS (R := R) As.length hC.2.2.2.2.1 (vt_goodIn (fun w hw => by
      unfold va_wsS vt_ws at hw
      rcases List.mem_append.mp hw with h | h
      · simp only [List.mem_cons, List.not_mem_nil, or_false] at h
        rcases h with rfl | rfl | rfl
        · exact hl
        · exact hstt
        · exact hini
      · rcases List.mem_cons.mp h with rfl | h
        · exact hcode
        · exact h)) rfl rfl rfl hdd ⟨hro.1, by show 8 + (D.2.2.1 + 11) + 48 * d' ≤ _; omega⟩) ⟨vc_blind, fun U hU hW => ⟨rfl, by rw [hU], by rw [hU]; exact hPa, vc_K.moved hW hK, ⟨fun i j x y hi hj _ => ?_, fun _ _ _ => trivial⟩⟩⟩ rfl rfl hL.1 hst (lv_room hcat) hd ⟨h1, h2⟩) hS (fun q _ h => hF q h) hF (fun w1 t H1 locs1 ht hvm hw1 hB hz1 hk1 hS1 => ?_)
  · have := (List.getElem?_eq_some_iff.mp hi).1
    have := (List.getElem?_eq_some_iff.mp hj).1
    simp only [List.length_cons, List.length_nil] at *
    omega
  · obtain ⟨hP1, hD1⟩ := hB
    rw [ht] at hP1
    subst hw1
    have hP2 : va_P g.2.2.2.1 vt_cls (ws.set q0 (a, e1)) H1 := by
      intro j x hx
      by_cases z : j = q0
      · subst z
        rw [List.getElem?_set_self (List.getElem?_eq_some_iff.mp he).1] at hx
        cases hx
        exact hP1 0 _ rfl
      · rw [List.getElem?_set_ne (Ne.symm z)] at hx
        refine (hP j x hx).kept (hk1 x.1 (hP j x hx).lt (fun h => ?_))
        rcases h with ⟨k2, y, h⟩ | h
        · match k2, h with
          | 0, h => cases h; exact z (hD.1 j q0 x _ hx he rfl)
        · have := (hP j x hx).lt
          omega
    exact k p e s m args below meth c H1 locs1 ls Q A hC hK hA hR hP2 (hD.set he) hS1 hL
end CTR
theorem vc_sl : ∀ {As : List Value}, (∀ v ∈ As, v.category = 1) → lg_sl As = As.map Slot.val
  | [], _ => rfl
  | a :: l, hcat => by
    have ih := vc_sl (As := l) (fun v hv => hcat v (List.mem_cons_of_mem _ hv))
    unfold lg_sl at ih ⊢
    rw [List.flatMap_cons, ih, if_neg (by rw [hcat a List.mem_cons_self]; decide)]
    rfl
/-- a contract out of a walk -/
theorem vc_meth {g : vt_GT} {d mc ms : Nat} {D : vt_MD} {As : List Value} {wc : va_W} {P : va_W → Prop} {L : List (Option Value)} (hpl : plainName D.1.cls = true) (hret : D.2.2.2 = none) (hcat : As.all (fun v => v.category == 1) = true) (hlen : Nat.ble As.length D.2.2.1 = true) (hL : As.map some ++ List.replicate (D.2.2.1 - As.length) none = L) (h : CT g (vc_R d mc ms) mc ms D 0 L [] wc 0 0 P) : vc_M g d mc ms D As wc P := by
  subst hL
  have hcat : ∀ v ∈ As, v.category = 1 := fun v hv => eq_of_beq (List.all_eq_true.mp hcat v hv)
  have hlen := Nat.le_of_ble_eq_true hlen
  intro sz
  refine Met.ofW (cc := D.2.1) (maxL := D.2.2.1) (ret := D.2.2.2) hpl rfl ?_
  intro p e s m args below meth c s₁ B hml hv
  obtain ⟨rfl, hsz, hP, hK, hD0⟩ := hv
  subst hsz
  have hts := atoms_spec (ws := vt_ws D) B.pre
  have hown : s.vm.findClass D.1.cls = some m.cls := findClass_of_methodNamed B.named
  have hlocks := B.notSynchronized
  have hnm : meth.name = D.1.name := (name_of_methodNamed B.named B.method).1
  have hsl : lg_sl As = As.map Slot.val := vc_sl hcat
  have hl := lv_entry As (n := D.2.2.1) (by rw [hsl, List.length_map]; exact hlen)
  rw [lg_entry_eq]
  refine h p e s m As.toArray below meth c s.heap [] _ _ (va_A wc s.heap.size) ⟨B.exec, B.bytes, hml, hown, fun w hw => hts w (List.mem_cons_of_mem _ hw), hnm⟩ hK (fun q hq => Or.inr hq) ?_ hP hD0.self va_S.rf ?_
  · intro ws' H' locs' pc' ls' h1 h2 h3 h4 h5
    exact W.vret B.exec B.bytes (B.returns.trans hret) (fun t ht hW => ⟨⟨ws', rfl, h1, by rw [ht]; exact h2, h3⟩, h4.F ht⟩) h4.2.2 h5
  · refine ⟨hl.1, by simp; omega, hl.2.1, fun i v hi => ?_⟩
    rw [hsl]
    by_cases hil : i < As.length
    · rw [List.getElem?_append_left (by rw [List.length_map]; exact hil), List.getElem?_map] at hi
      have h2 : As[i]? = some v := by
        cases ha : As[i]? with
        | none => rw [ha] at hi; cases hi
        | some z => rw [ha] at hi; cases hi; rfl
      rw [List.getElem?_toArray, List.getElem?_append_left (by rw [List.length_map]; exact hil), List.getElem?_map, h2]
      rfl
    · rw [List.getElem?_append_right (by rw [List.length_map]; omega)] at hi
      have := List.eq_of_mem_replicate (List.mem_of_getElem? hi)
      cases this
