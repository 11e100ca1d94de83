/-! CONTRACTS: method D with the arguments As at the contents σ comes to a return with Φ -/
def vt_Q (g : vt_GT) (Φ : Option Value → vt_Sg → Prop) : Array Value → State → Outcome → State → Prop := fun _ st oc t => ∃ (v : Option Value) (σ' : vt_Sg), oc = .returned v ∧ Φ v σ' ∧ vt_P g σ' t.heap ∧ va_F (vt_A g) st t
def vt_M (g : vt_GT) (d : Nat) (D : vt_MD) (As : List Value) (σ : vt_Sg) (Φ : Option Value → vt_Sg → Prop) : Prop :=
  Met g.1 D.1 (vt_ws D) (vt_R d) (va_Pc As (fun U => vt_G g U ∧ vt_P g σ U.heap)) (vt_Q g Φ) 0 0 (vt_A g)
def vt_ok (D : vt_MD) (n : Nat) : Prop := Cond.code D.1 D.2.1 D.2.2.1 D.2.2.2 ∈ vt_tbl ∧ Cond.initialized D.1.cls ∈ vt_tbl ∧ (D.1.cls ≠ "java/lang/invoke/MethodHandle" ∧ D.1.cls ≠ "java/lang/invoke/VarHandle" ∧ (parseMethodDescriptor D.1.desc).map (fun d => d.parameters.length) = some n) ∧ plainName D.1.cls = true ∧ D.2.2.1 ≤ 29
def vt_okV (D : vt_MD) (n : Nat) : Prop := vt_ok D n ∧ Cond.instanceMethod D.1 ∈ vt_tbl ∧ Cond.selects D.1.cls D.1 D.1 ∈ vt_tbl
def vt_okS (D : vt_MD) (n : Nat) : Prop := vt_ok D n ∧ Cond.static D.1 ∈ vt_tbl
theorem vt_M.mono {g : vt_GT} {d : Nat} {D : vt_MD} {As : List Value} {σ : vt_Sg} {Φ Ψ : Option Value → vt_Sg → Prop} (h : vt_M g d D As σ Φ) (hh : ∀ v σ', Φ v σ' → Ψ v σ') : vt_M g d D As σ Ψ := by
  intro p e ha hc hk s m args below hf h1 h2 h3
  obtain ⟨k, o, a1, a2, a3, ⟨v, σ', b1, b2, b3⟩, a5⟩ := h p e ha hc hk s m args below hf h1 h2 h3
  exact ⟨k, o, a1, a2, a3, ⟨v, σ', b1, hh v σ' b2, b3⟩, a5⟩
section QC
variable {g : vt_GT} {R : Room} {cl sl : Nat} {M : vt_MD} {X : vt_XT} {pc : Nat} {L L' : List (Option Value)} {st : List Value} {σ : vt_Sg} {P : Option Value → vt_Sg → Prop}
theorem vt_S_call {s st0 t : State} {H : Heap} {locs L1 : List Loc} (hS : va_S (vt_A g) s.heap H locs) (h0 : st0.heap = H) (hF : va_F (vt_A g) st0 t) (hL : ∀ q ∈ L1, vt_A g q.base) : va_S (vt_A g) s.heap t.heap (locs ++ L1) := by
  subst h0
  refine ⟨Nat.le_trans hS.1 hF.1, fun q h1 h2 => by rw [hF.2 q (Nat.lt_of_lt_of_le h1 hS.1) h2]; exact hS.2.1 q h1 h2, fun q hq => ?_⟩
  rcases List.mem_append.mp hq with h | h
  · exact hS.2.2 q h
  · exact hL q h
theorem vt_blind {As : List Value} : FrameBlind (va_Pc As (fun U => vt_G g U ∧ vt_P g σ U.heap)) := by
  intro a U f mk h
  obtain ⟨h1, h2, h3⟩ := h
  exact ⟨h1, vt_G.same h2 rfl rfl, h3⟩
/-- a world's object as receiver -/
def vt_rcv (g : vt_GT) (C : String) (b : Nat) : Prop := ∀ (σ : vt_Sg) (s : State) (H : Heap) (locs : List Loc), vt_G g s → vt_P g σ H → va_S (vt_A g) s.heap H locs → ∃ cell : Cell, H[b]? = some cell ∧ cell.vm.isStatics = false ∧ s.vm.findClass C = some cell.cls
theorem vt_rcvO {kc ci : Nat} {fl : List (Option Nat)} {q : vw_C} (hk : vt_lay[kc]? = some (.inr (ci, fl))) (hc : vt_cls[ci]? = some q) : vt_rcv g q.1 (g.2.1 kc) := by
  intro σ s H locs hG hP hS
  exact va_recv hG.1 hP hc (vt_W_at (g := g) (σ := σ) hk)
theorem vt_rcvS {i : Nat} {q : String × Nat × String × List Int32} (hi : vt_strs[i]? = some q) : vt_rcv g "java/lang/String" (g.2.2.2.2.1 i) := by
  intro σ s H locs hG hP hS
  obtain ⟨cell, h1, h2, h3, h4⟩ := (hG.2.2.1 i q hi).1
  exact ⟨cell, by rw [hS.2.1 _ (Array.getElem?_eq_some_iff.mp h1).1 h4]; exact h1, h2, h3⟩
theorem q_callV {d index b : Nat} {D : vt_MD} {As rest stk : List Value} {Φ : Option Value → vt_Sg → Prop} (hd : decode M.2.1 pc = .ok (.invokevirtual index, 3)) (hD : vt_okV D As.length) (hl : Cond.methodLink M.1.cls index D.1 ∈ vt_tbl) (hrc : vt_rcv g D.1.cls b)
    (hst : stk = As.reverse ++ .ref b :: rest) (hcat : (rest.map fun v => v.category).sum ≤ 8) (hro : d + 1 ≤ R.frames ∧ 8 + (29 + 11) + 48 * d ≤ R.locals) (hcs : cl ≤ R.cells ∧ sl ≤ R.slots)
    (hM : vt_M g d D (.ref b :: As) σ Φ) (k : ∀ v σ', Φ v σ' → TT g R cl sl M X (pc + 3) L (v.toList ++ rest) σ' P) : TT g R cl sl M X pc L stk σ P := by
  intro p e s m args below meth c H locs ls Q hC hR hP hS hL
  obtain ⟨⟨d1, d2, d3, d4, d5⟩, d6, d7⟩ := hD
  have hG : GoodIn vt_tbl (wsV M.1.cls index D.1.cls D.1 (vt_ws D)) := vt_goodIn (fun w hw => by
    unfold wsV vt_ws at hw
    rcases List.mem_append.mp hw with h | h
    · simp only [List.mem_cons, List.not_mem_nil, or_false] at h
      rcases h with rfl | rfl | rfl | rfl
      · exact hl
      · exact d6
      · exact d7
      · exact d2
    · rcases List.mem_cons.mp h with rfl | h
      · exact d1
      · exact h)
  have run := va_runV (As := As) (rest := rest) (g := F0 m pc ls stk) (H := H) (locs := locs) (cells := cl) (slots := sl) (e := e) (below := below) (meth := meth) (R := R) (cc := M.2.1) (nL := M.2.2.1) ⟨hC.1, hC.2.1, hC.2.2.1, hC.2.2.2.1, hC.2.2.2.2.1⟩ hM
    (cwV (R := R) As.length hC.2.2.2.2.1 hG rfl rfl rfl ⟨rfl, d3⟩ ⟨hro.1, by show 8 + (D.2.2.1 + 11) + 48 * d ≤ _; omega⟩)
    ⟨vt_blind, hrc σ s H locs hC.2.2.2.2.2.1 hP hS, fun U hU hW => ⟨rfl, vt_G.move hC.2.2.2.2.2.1 hW hS hU, by rw [hU]; exact hP⟩⟩ rfl rfl hL.1 hst (lv_room hcat) hd ⟨hcs.1, hcs.2⟩
  intro T hT Xs
  obtain ⟨v, st₀, t, T', Lc, h0, X', hLc, e1, e2, ⟨v', σ', hv, hΦ, hP', hF⟩, stp⟩ := run T hT Xs
  cases hv
  obtain ⟨t2, a1, b1⟩ := k v σ' hΦ p e s m args below meth c T'.heap (locs ++ Lc) ls Q hC hR (by rw [e1]; exact hP') (by rw [e1]; exact vt_S_call hS h0 hF hLc) hL T' rfl X'
  exact ⟨t2, stp t2 a1, b1⟩
theorem q_callS {d index : Nat} {D : vt_MD} {As rest stk : List Value} {Φ : Option Value → vt_Sg → Prop} (hd : decode M.2.1 pc = .ok (.invokestatic index, 3)) (hD : vt_okS D As.length) (hl : Cond.methodLink M.1.cls index D.1 ∈ vt_tbl)
    (hst : stk = As.reverse ++ rest) (hcat : (rest.map fun v => v.category).sum ≤ 8) (hro : d + 1 ≤ R.frames ∧ 8 + (29 + 11) + 48 * d ≤ R.locals) (hcs : cl ≤ R.cells ∧ sl ≤ R.slots)
    (hM : vt_M g d D As σ Φ) (k : ∀ v σ', Φ v σ' → TT g R cl sl M X (pc + 3) L (v.toList ++ rest) σ' P) : TT g R cl sl M X pc L stk σ P := by
  intro p e s m args below meth c H locs ls Q hC hR hP hS hL
  obtain ⟨⟨d1, d2, d3, d4, d5⟩, d6⟩ := hD
  have hG : GoodIn vt_tbl (va_wsS M.1.cls index D.1 (vt_ws D)) := vt_goodIn (fun w hw => by
    unfold va_wsS vt_ws at hw
    rcases List.mem_append.mp hw with h | h
    · simp only [List.mem_cons, List.not_mem_nil, or_false] at h
      rcases h with rfl | rfl | rfl
      · exact hl
      · exact d6
      · exact d2
    · rcases List.mem_cons.mp h with rfl | h
      · exact d1
      · exact h)
  have run := va_runS (As := As) (rest := rest) (g := F0 m pc ls stk) (H := H) (locs := locs) (cells := cl) (slots := sl) (e := e) (below := below) (meth := meth) (R := R) (cc := M.2.1) (nL := M.2.2.1) ⟨hC.1, hC.2.1, hC.2.2.1, hC.2.2.2.1, hC.2.2.2.2.1⟩ hM
    (va_cwS (R := R) As.length hC.2.2.2.2.1 hG rfl rfl rfl d3 ⟨hro.1, by show 8 + (D.2.2.1 + 11) + 48 * d ≤ _; omega⟩)
    ⟨vt_blind, fun U hU hW => ⟨rfl, vt_G.move hC.2.2.2.2.2.1 hW hS hU, by rw [hU]; exact hP⟩⟩ rfl rfl hL.1 hst (lv_room hcat) hd ⟨hcs.1, hcs.2⟩
  intro T hT Xs
  obtain ⟨v, st₀, t, T', Lc, h0, X', hLc, e1, e2, ⟨v', σ', hv, hΦ, hP', hF⟩, stp⟩ := run T hT Xs
  cases hv
  obtain ⟨t2, a1, b1⟩ := k v σ' hΦ p e s m args below meth c T'.heap (locs ++ Lc) ls Q hC hR (by rw [e1]; exact hP') (by rw [e1]; exact vt_S_call hS h0 hF hLc) hL T' rfl X'
  exact ⟨t2, stp t2 a1, b1⟩
end QC
section QD
variable {g : vt_GT} {d : Nat} {M : vt_MD} {X : vt_XT} {pc : Nat} {L L' : List (Option Value)} {st : List Value} {σ : vt_Sg} {P : Option Value → vt_Sg → Prop}
/-- the rows for a method's own room -/
theorem q_cV {d' index b : Nat} {D : vt_MD} (As rest : List Value) {stk : List Value} {Φ : Option Value → vt_Sg → Prop} (hd : decode M.2.1 pc = .ok (.invokevirtual index, 3)) (hD : vt_okV D As.length) (hl : Cond.methodLink M.1.cls index D.1 ∈ vt_tbl) (hrc : vt_rcv g D.1.cls b)
    (hst : stk = As.reverse ++ .ref b :: rest) (hcat : (rest.map fun v => v.category).sum ≤ 8) (hro : d' + 1 ≤ d)
    (hM : vt_M g d' D (.ref b :: As) σ Φ) (k : ∀ v σ', Φ v σ' → TT g (vt_R d) 0 0 M X (pc + 3) L (v.toList ++ rest) σ' P) : TT g (vt_R d) 0 0 M X pc L stk σ P :=
  q_callV hd hD hl hrc hst hcat ⟨hro, by show 8 + (29 + 11) + 48 * d' ≤ 48 * d; omega⟩ ⟨Nat.le_refl _, Nat.le_refl _⟩ hM k
theorem q_cS {d' index : Nat} {D : vt_MD} (As rest : List Value) {stk : List Value} {Φ : Option Value → vt_Sg → Prop} (hd : decode M.2.1 pc = .ok (.invokestatic index, 3)) (hD : vt_okS D As.length) (hl : Cond.methodLink M.1.cls index D.1 ∈ vt_tbl)
    (hst : stk = As.reverse ++ rest) (hcat : (rest.map fun v => v.category).sum ≤ 8) (hro : d' + 1 ≤ d)
    (hM : vt_M g d' D As σ Φ) (k : ∀ v σ', Φ v σ' → TT g (vt_R d) 0 0 M X (pc + 3) L (v.toList ++ rest) σ' P) : TT g (vt_R d) 0 0 M X pc L stk σ P :=
  q_callS hd hD hl hst hcat ⟨hro, by show 8 + (29 + 11) + 48 * d' ≤ 48 * d; omega⟩ ⟨Nat.le_refl _, Nat.le_refl _⟩ hM k
/-- System.arraycopy of numbers of a kind (ints 0, shorts 2) -/
theorem q_copy {index k0 k1 kd n0 n1 : Nat} {sp dp n : Int32} (hd : decode M.2.1 pc = .ok (.invokestatic index, 3)) (hl : Cond.methodLink M.1.cls index arraycopyName ∈ vt_tbl) (hnat : Cond.native arraycopyName ∈ vt_tbl) (hstat : Cond.static arraycopyName ∈ vt_tbl) (hini : Cond.initialized "java/lang/System" ∈ vt_tbl)
    (hk0 : vt_ar k0 kd n0) (hk1 : vt_ar k1 kd n1) (hkd : kd = 0 ∨ kd = 2) (h1 : ¬ sp < 0) (h2 : ¬ dp < 0) (h3 : ¬ n < 0) (h4 : sp.toNatClampNeg + n.toNatClampNeg ≤ n0) (h5 : dp.toNatClampNeg + n.toNatClampNeg ≤ n1) (hfit : kd = 2 → ∀ i, i < n.toNatClampNeg → fits .short (.int (σ k0 (sp.toNatClampNeg + i))) = true)
    (hro : 1 ≤ d) (k : TT g (vt_R d) 0 0 M X (pc + 3) L [] (su σ k1 (va_cpy (σ k0) (σ k1) sp.toNatClampNeg dp.toNatClampNeg n.toNatClampNeg)) P) : TT g (vt_R d) 0 0 M X pc L [.int n, .int dp, .ref (g.2.1 k1), .int sp, .ref (g.2.1 k0)] σ P := by
  intro p e s m args below meth c H locs ls Q hC hR hP hS hL
  obtain ⟨r0, hk0⟩ := hk0
  obtain ⟨r1, hk1⟩ := hk1
  have hty : ∃ ty : FieldType, refKind ty = false ∧ (vt_tys g)[kd]? = some (g.2.2.1 kd, ty) ∧ ∀ i, i < n.toNatClampNeg → fits ty (.int (σ k0 (sp.toNatClampNeg + i))) = true := by
    rcases hkd with rfl | rfl
    · exact ⟨.int, rfl, rfl, fun _ _ => rfl⟩
    · exact ⟨.short, rfl, rfl, hfit rfl⟩
  obtain ⟨ty, t1, t2, t3⟩ := hty
  have hk4 : kd < 4 := by omega
  refine va_copyi (tys := vt_tys g) (rest := []) (R := vt_R d) hC.1 hC.2.1 (by rw [hC.2.2.1, hL.1]) hC.2.2.2.1 (hC.2.2.2.2.1 _ hl) (hC.2.2.2.2.1 _ hnat) (hC.2.2.2.2.1 _ hstat) (hC.2.2.2.2.1 _ hini) hC.2.2.2.2.2.1.1 hP (vt_D hC.2.2.2.2.2.1.2.1 σ) hS k0 k1 kd kd (vt_W_ar hk0 hk4) (vt_W_ar hk1 hk4) t2 t2 t1 h1 h2 h3 h4 h5 t3 hro ?_ hd (fun H1 locs1 hP1 hD1 hS1 => ?_)
  · have e1 : nativeFrameWords "java/lang/System" "arraycopy" 5 + 11 ≤ 48 := by decide +kernel
    show 0 + _ ≤ 48 * d
    omega
  · rw [vt_W_sa hk1 hk4] at hP1
    exact k p e s m args below meth c H1 locs1 ls Q hC hR hP1 hS1 hL
/-- a method's entry -/
theorem vt_meth {D : vt_MD} {n : Nat} {As : List Value} {Φ : Option Value → vt_Sg → Prop} (hD : vt_ok D n) (hcat : ∀ v ∈ As, v.category = 1) (hlen : As.length ≤ D.2.2.1)
    (h : TT g (vt_R d) 0 0 D none 0 (As.map some ++ List.replicate (D.2.2.1 - As.length) none) [] σ Φ) : vt_M g d D As σ Φ := by
  refine Met.ofW (cc := D.2.1) (maxL := D.2.2.1) (ret := D.2.2.2) hD.2.2.2.1 rfl ?_
  intro p e s m args below meth c s₁ B hml hv
  obtain ⟨rfl, hG, hP⟩ := hv
  have hts := atoms_spec (ws := vt_ws D) B.pre
  have hown : s.vm.findClass D.1.cls = some m.cls := findClass_of_methodNamed B.named
  have hlocks := B.notSynchronized
  have hsl : lg_sl As = As.map Slot.val := by
    unfold lg_sl
    clear h hP hG hts hown hlocks B hlen
    induction As with
    | nil => rfl
    | cons a l ih =>
      rw [List.flatMap_cons, ih (fun v hv => hcat v (List.mem_cons_of_mem _ hv)), if_neg (by rw [hcat a List.mem_cons_self]; decide)]
      rfl
  have hl := lv_entry As (n := D.2.2.1) (by rw [hsl, List.length_map]; exact hlen)
  rw [lg_entry_eq]
  refine h p e s m As.toArray below meth c s.heap [] _ _ ⟨B.exec, B.bytes, hml, hown, fun w hw => hts w (List.mem_cons_of_mem _ hw), hG, fun _ _ _ h => by cases h⟩ ?_ hP va_S.rf ?_
  · intro v σ' H' locs' pc' ls' h1 h2 h3 h4
    rcases h4 with ⟨a1, rfl, a3⟩ | ⟨x, ty, a1, rfl, a3, a4⟩
    · exact W.vret B.exec B.bytes (B.returns.trans a1) (fun t ht hW => ⟨none, σ', rfl, h1, by rw [ht]; exact h2, h3.F ht⟩) h3.2.2 a3
    · exact W.zret B.exec B.bytes (B.returns.trans a1) a3 (fun t ht hW => ⟨some (.int x), σ', rfl, h1, by rw [ht]; exact h2, h3.F ht⟩) h3.2.2 a4
  · refine ⟨hl.1, by simp; omega, hl.2.1, fun i v hi => ?_⟩
    rw [hsl]
    by_cases hil : i < As.length
    · rw [List.getElem?_append_left (by rw [List.length_map]; exact hil), List.getElem?_map] at hi
      have h2 : As[i]? = some v := by
        cases ha : As[i]? with
        | none => rw [ha] at hi; cases hi
        | some z => rw [ha] at hi; cases hi; rfl
      rw [List.getElem?_toArray, List.getElem?_append_left (by rw [List.length_map]; exact hil), List.getElem?_map, h2]
      rfl
    · rw [List.getElem?_append_right (by rw [List.length_map]; omega)] at hi
      have := List.eq_of_mem_replicate (List.mem_of_getElem? hi)
      cases this
end QD
