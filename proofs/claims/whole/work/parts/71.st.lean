/-! THE START: what holds at the law's entry -/
theorem dlaw_0 : decode code 0 = .ok (.new 7, 3) := by decide +kernel
theorem dlaw_3 : decode code 3 = .ok (.dup, 1) := by decide +kernel
theorem dlaw_4 : decode code 4 = .ok (.invokespecial 9, 3) := by decide +kernel
theorem dlaw_7 : decode code 7 = .ok (.astore_n 1, 1) := by decide +kernel
theorem dlaw_8 : decode code 8 = .ok (.new 10, 3) := by decide +kernel
theorem dlaw_11 : decode code 11 = .ok (.dup, 1) := by decide +kernel
theorem dlaw_12 : decode code 12 = .ok (.invokespecial 12, 3) := by decide +kernel
theorem dlaw_15 : decode code 15 = .ok (.astore_n 2, 1) := by decide +kernel
theorem lt1 {w : Cond} (h : w ∈ tables_1_1) : w ∈ lw_tbl := List.mem_append_right _ (List.mem_append_left _ h)
theorem lt2 {w : Cond} (h : w ∈ tables_1_2) : w ∈ lw_tbl := List.mem_append_right _ (List.mem_append_right _ (List.mem_append_left _ h))
theorem lt3 {w : Cond} (h : w ∈ tables_1_3) : w ∈ lw_tbl := List.mem_append_right _ (List.mem_append_right _ (List.mem_append_right _ (List.mem_append_left _ h)))
theorem lt4 {w : Cond} (h : w ∈ tables_1_4) : w ∈ lw_tbl := List.mem_append_right _ (List.mem_append_right _ (List.mem_append_right _ (List.mem_append_right _ (List.mem_append_left _ h))))
theorem lt5 {w : Cond} (h : w ∈ tables_1_5) : w ∈ lw_tbl := List.mem_append_right _ (List.mem_append_right _ (List.mem_append_right _ (List.mem_append_right _ (List.mem_append_right _ (List.mem_append_left _ h)))))
theorem lt6 {w : Cond} (h : w ∈ tables_1_6) : w ∈ lw_tbl := List.mem_append_right _ (List.mem_append_right _ (List.mem_append_right _ (List.mem_append_right _ (List.mem_append_right _ (List.mem_append_right _ h)))))
def R_law : String := "ArcadeRentsLaw"
theorem cl_law7 : Cond.classLink R_law 7 RX11 ∈ vt_tbl := tb1 (List.mem_of_getElem? (i := 22) rfl) rfl
theorem cl_law10 : Cond.classLink R_law 10 RX12 ∈ vt_tbl := tb5 (List.mem_of_getElem? (i := 24) rfl) rfl
theorem ml_law9 : Cond.methodLink R_law 9 D_X11_init.1 ∈ vt_tbl := tb1 (List.mem_of_getElem? (i := 24) rfl) rfl
theorem ml_law12 : Cond.methodLink R_law 12 D_X12_init.1 ∈ vt_tbl := tb5 (List.mem_of_getElem? (i := 26) rfl) rfl
theorem ao_I : Cond.arrayOver (.array .int) ∈ lw_tbl := lt1 (List.mem_of_getElem? (i := 163) rfl)
theorem ao_S : Cond.arrayOver (.array .short) ∈ lw_tbl := lt2 (List.mem_of_getElem? (i := 41) rfl)
theorem st_nw : ∀ w ∈ vc_nw, w ∈ lw_tbl := by
  intro w hw
  simp only [vc_nw, List.mem_cons, List.not_mem_nil, or_false] at hw
  rcases hw with rfl | rfl | rfl | rfl | rfl | rfl | rfl | rfl | rfl
  · exact lt1 (List.mem_of_getElem? (i := 38) rfl)
  · exact lt1 (List.mem_of_getElem? (i := 60) rfl)
  · exact lt1 (List.mem_of_getElem? (i := 103) rfl)
  · exact lt1 (List.mem_of_getElem? (i := 127) rfl)
  · exact lt1 (List.mem_of_getElem? (i := 158) rfl)
  · exact lt1 (List.mem_of_getElem? (i := 234) rfl)
  · exact lt2 (List.mem_of_getElem? (i := 36) rfl)
  · exact lt2 (List.mem_of_getElem? (i := 95) rfl)
  · exact lt2 (List.mem_of_getElem? (i := 108) rfl)
theorem st_on : ∀ w ∈ vc_nw, w.onTables = true := by
  intro w hw
  obtain ⟨a, i, y, h, rfl⟩ := vc_nw_ok w hw
  rfl
theorem lz_C : Cond.laysStatic "java/lang/String" "COMPACT_STRINGS" "Z" ∈ lw_tbl := lt3 (List.mem_of_getElem? (i := 164) rfl)
theorem lz_F : Cond.laysStatic "jdk/internal/util/Preconditions" "SIOOBE_FORMATTER" "Ljava/util/function/BiFunction;" ∈ lw_tbl := lt3 (List.mem_of_getElem? (i := 203) rfl)
theorem iz_C : Cond.initialized "java/lang/String" ∈ lw_tbl := lt1 (List.mem_of_getElem? (i := 16) rfl)
theorem iz_F : Cond.initialized "jdk/internal/util/Preconditions" ∈ lw_tbl := lt1 (List.mem_of_getElem? (i := 19) rfl)
section ST
variable {s : State} {args : Array Value}
theorem st_arr {ty : FieldType} (h : (Cond.arrayClass ty).before args s = true) : ∃ c : ClassId, ArrOfT s c ty ∧ s.vm.findClass ("[" ++ ty.toString) = some c := by
  obtain ⟨c, k, comp, h1, h2, h3⟩ := Cond.arrayClass_spec h
  exact ⟨c, fun n z => ⟨fun _ h => (by cases h), k, h2, comp, h3⟩, h1⟩
theorem st_arr2 {ty : FieldType} (h : (Cond.arrayOver (.array ty)).before args s = true) : ∃ c : ClassId, ArrOfT s c (.array ty) ∧ s.vm.findClass ("[" ++ (FieldType.array ty).toString) = some c := by
  obtain ⟨comp, c, k, h1, h2, h3, h4, h5⟩ := Jvm.Stand.arrayOver_specB h
  exact ⟨c, fun n z => ⟨fun _ h => (by cases h), k, h3, comp, h4⟩, h5⟩
theorem st_cls (hts : ∀ w ∈ vt_tbl, w.before args s = true) : ∃ (dC : Nat → ClassId) (dI : Nat → Nat → Nat), ∀ (k : Nat) (q : vw_C), vt_cls[k]? = some q → u_Kn s q.1 q.2.1 q.2.2 (dC k) (dI k) := by
  have h : ∀ k : Nat, ∃ q0 : ClassId × (Nat → Nat), ∀ q : vw_C, vt_cls[k]? = some q → u_Kn s q.1 q.2.1 q.2.2 q0.1 q0.2 := by
    intro k
    match k with
    | 0 =>
      obtain ⟨a, b, h⟩ := u_known hts inX0_ok (hts _ is_X0)
      exact ⟨(a, b), fun q hq => (by cases hq; exact h)⟩
    | 1 =>
      obtain ⟨a, b, h⟩ := u_known hts inX1_ok (hts _ is_X1)
      exact ⟨(a, b), fun q hq => (by cases hq; exact h)⟩
    | 2 =>
      obtain ⟨a, b, h⟩ := u_known hts inX2_ok (hts _ is_X2)
      exact ⟨(a, b), fun q hq => (by cases hq; exact h)⟩
    | 3 =>
      obtain ⟨a, b, h⟩ := u_known hts inX3_ok (hts _ is_X3)
      exact ⟨(a, b), fun q hq => (by cases hq; exact h)⟩
    | 4 =>
      obtain ⟨a, b, h⟩ := u_known hts inX4_ok (hts _ is_X4)
      exact ⟨(a, b), fun q hq => (by cases hq; exact h)⟩
    | 5 =>
      obtain ⟨a, b, h⟩ := u_known hts inX5_ok (hts _ is_X5)
      exact ⟨(a, b), fun q hq => (by cases hq; exact h)⟩
    | 6 =>
      obtain ⟨a, b, h⟩ := u_known hts inX6_ok (hts _ is_X6)
      exact ⟨(a, b), fun q hq => (by cases hq; exact h)⟩
    | 7 =>
      obtain ⟨a, b, h⟩ := u_known hts inX7_ok (hts _ is_X7)
      exact ⟨(a, b), fun q hq => (by cases hq; exact h)⟩
    | 8 =>
      obtain ⟨a, b, h⟩ := u_known hts inX8_ok (hts _ is_X8)
      exact ⟨(a, b), fun q hq => (by cases hq; exact h)⟩
    | 9 =>
      obtain ⟨a, b, h⟩ := u_known hts inX9_ok (hts _ is_X9)
      exact ⟨(a, b), fun q hq => (by cases hq; exact h)⟩
    | 10 =>
      obtain ⟨a, b, h⟩ := u_known hts inX10_ok (hts _ is_X10)
      exact ⟨(a, b), fun q hq => (by cases hq; exact h)⟩
    | 11 =>
      obtain ⟨a, b, h⟩ := u_known hts inX11_ok (hts _ is_X11)
      exact ⟨(a, b), fun q hq => (by cases hq; exact h)⟩
    | 12 =>
      obtain ⟨a, b, h⟩ := u_known hts inX12_ok (hts _ is_X12)
      exact ⟨(a, b), fun q hq => (by cases hq; exact h)⟩
    | n + 13 => exact ⟨(0, fun _ => 0), fun q hq => (by simp [vt_cls] at hq)⟩
  obtain ⟨f, hf⟩ := Classical.axiomOfChoice h
  exact ⟨fun k => (f k).1, fun k => (f k).2, fun k q hq => hf k q hq⟩
/-- one String constant -/
theorem st_one {A : Nat → Prop} {t : Term} {bs : List Int32} (hN : bs.length < 2 ^ 31) (hex : (Cond.exactly t "java/lang/String").before args s = true) (hco : (Cond.eq (.field t "java/lang/String" "coder" "B") (.int 0)).before args s = true) (har : (Cond.arrayOf (.field t "java/lang/String" "value" "[B") .byte).before args s = true) (hle : (Cond.eq (.length (.field t "java/lang/String" "value" "[B")) (.int (Int32.ofNat bs.length))).before args s = true) (hel : ∀ j : Nat, j < bs.length → (Cond.eq (.elem (.field t "java/lang/String" "value" "[B") (.int (Int32.ofNat j))) (.int (bs.getD j 0))).before args s = true) (hA : ∀ a : Nat, a < s.heap.size → ¬ A a) :
    ∃ q : Nat × Nat, t.eval args s none [] s = some (.ref q.1) ∧ va_O "java/lang/String" q.1 A s s.heap ∧ va_OF "java/lang/String" "coder" "B" (.int 0) q.1 A s s.heap ∧ va_OF "java/lang/String" "value" "[B" (.ref q.2) q.1 A s s.heap ∧ va_T .byte q.2 bs.length (fun j => .int (bs.getD j 0)) A s s.heap := by
  obtain ⟨a, c, cA, kA, q1, q2, q3, q4, q5, q6, -⟩ := Cond.exactly_spec (args := args) (first := s) (o := none) (s := s) (idx := []) (t := t) (cls := "java/lang/String") hex
  obtain ⟨u, hu, hT⟩ := va_Tof (f := fun j => .int (bs.getD j 0)) (A := A) hN har (va_eqt hle) (fun j hj => va_eqt (hel j hj)) hA
  exact ⟨(a, u), q1, ⟨cA, q3, q5, by rw [q6]; exact q2, hA a (Array.getElem?_eq_some_iff.mp q3).1⟩, vk_OFof q1 (va_eqt hco) hA, vk_OFof q1 hu hA, hT⟩
def sty (i : Nat) : String × Nat × String × List Int32 := vt_strs.getD i ("", 0, "", [])
def stt (i : Nat) : Term := .string (sty i).1 (sty i).2.1
def st_F : List Cond := flatC (Jvm.Cond.and given_1 narrow_1)
set_option maxRecDepth 100000 in
theorem st_mem : ∀ i, i < 9 → Cond.exactly (stt i) "java/lang/String" ∈ st_F ∧ Cond.eq (.field (stt i) "java/lang/String" "coder" "B") (.int 0) ∈ st_F ∧ Cond.arrayOf (.field (stt i) "java/lang/String" "value" "[B") .byte ∈ st_F ∧ Cond.eq (.length (.field (stt i) "java/lang/String" "value" "[B")) (.int (Int32.ofNat (sty i).2.2.2.length)) ∈ st_F ∧ (sty i).2.2.2.length < 2 ^ 31 ∧ ∀ j, j < (sty i).2.2.2.length → Cond.eq (.elem (.field (stt i) "java/lang/String" "value" "[B") (.int (Int32.ofNat j))) (.int ((sty i).2.2.2.getD j 0)) ∈ st_F := by decide +kernel
theorem st_memC : Cond.eq (.static "java/lang/String" "COMPACT_STRINGS" "Z") (.int 1) ∈ st_F ∧ Cond.isRef (.static "jdk/internal/util/Preconditions" "SIOOBE_FORMATTER" "Ljava/util/function/BiFunction;") ∈ st_F := by decide +kernel
theorem st_ref : ∀ i, i < 9 → Cond.stringRef (sty i).1 (sty i).2.1 (sty i).2.2.1 ∈ lw_tbl := by
  intro i hi
  match i, hi with
  | 0, _ => exact lt3 (List.mem_of_getElem? (i := 150) rfl)
  | 1, _ => exact lt3 (List.mem_of_getElem? (i := 233) rfl)
  | 2, _ => exact lt4 (List.mem_of_getElem? (i := 19) rfl)
  | 3, _ => exact lt4 (List.mem_of_getElem? (i := 20) rfl)
  | 4, _ => exact lt6 (List.mem_of_getElem? (i := 40) rfl)
  | 5, _ => exact lt6 (List.mem_of_getElem? (i := 79) rfl)
  | 6, _ => exact lt6 (List.mem_of_getElem? (i := 91) rfl)
  | 7, _ => exact lt6 (List.mem_of_getElem? (i := 95) rfl)
  | 8, _ => exact lt6 (List.mem_of_getElem? (i := 96) rfl)
theorem sty_at {i : Nat} {q : String × Nat × String × List Int32} (h : vt_strs[i]? = some q) : i < 9 ∧ sty i = q := by
  refine ⟨(List.getElem?_eq_some_iff.mp h).1, ?_⟩
  unfold sty
  rw [List.getD_eq_getElem?_getD, h]
  rfl
theorem st_str {A : Nat → Prop} (hf : ∀ w ∈ st_F, w.before args s = true) (hA : ∀ a : Nat, a < s.heap.size → ¬ A a) : ∃ aK aV : Nat → Nat, ∀ (i : Nat) (q : String × Nat × String × List Int32), vt_strs[i]? = some q →
    (Term.string q.1 q.2.1).eval args s none [] s = some (.ref (aK i)) ∧ va_O "java/lang/String" (aK i) A s s.heap ∧ va_OF "java/lang/String" "coder" "B" (.int 0) (aK i) A s s.heap ∧ va_OF "java/lang/String" "value" "[B" (.ref (aV i)) (aK i) A s s.heap ∧ va_T .byte (aV i) q.2.2.2.length (fun j => .int (q.2.2.2.getD j 0)) A s s.heap := by
  have h : ∀ i : Nat, ∃ z : Nat × Nat, ∀ (q : String × Nat × String × List Int32), vt_strs[i]? = some q →
      (Term.string q.1 q.2.1).eval args s none [] s = some (.ref z.1) ∧ va_O "java/lang/String" z.1 A s s.heap ∧ va_OF "java/lang/String" "coder" "B" (.int 0) z.1 A s s.heap ∧ va_OF "java/lang/String" "value" "[B" (.ref z.2) z.1 A s s.heap ∧ va_T .byte z.2 q.2.2.2.length (fun j => .int (q.2.2.2.getD j 0)) A s s.heap := by
    intro i
    by_cases hi : i < 9
    · obtain ⟨m1, m2, m3, m4, m5, m6⟩ := st_mem i hi
      obtain ⟨z, hz⟩ := st_one (A := A) m5 (hf _ m1) (hf _ m2) (hf _ m3) (hf _ m4) (fun j hj => hf _ (m6 j hj)) hA
      refine ⟨z, fun q hq => ?_⟩
      obtain ⟨-, rfl⟩ := sty_at hq
      exact hz
    · exact ⟨(0, 0), fun q hq => absurd (sty_at hq).1 hi⟩
  obtain ⟨f, hf⟩ := Classical.axiomOfChoice h
  exact ⟨fun k => (f k).1, fun k => (f k).2, fun k q hq => hf k q hq⟩
end ST
/-- a constructor is called, at a state that is named -/
theorem w_init {g : vt_GT} {R : Room} {p : Program} {e : Env} {s : State} {m : MethodId} {args : Array Value} {below : List Frame} {meth : Method} {c : Code} {H : Heap} {locs : List Loc} {ls : Array Slot} {Q : State → Prop} {A : Nat → Prop} {cc : ByteArray} {nL pc cl sl index d' mc' ms' b : Nat} {own : String} {D : vt_MD} {As rest stk : List Value} {e0 : va_E} {wr : va_W} {P' : va_W → Prop} (hx : p.tables.exec = Jvm.exec) (hb : c.code = cc) (hmx : c.maxLocals = nL) (hown : s.vm.findClass own = some m.cls) (hts : ∀ w ∈ vt_tbl, w.before args s = true) (hK : vc_K g s) (hA : ∀ q, s.heap.size ≤ q → A q) (hP : va_P g.2.2.2.1 vt_cls (wr ++ [(b, e0)]) H) (hD : va_D A (wr ++ [(b, e0)])) (hS : va_S A s.heap H locs) (hls : ls.size = nL) (hd : decode cc pc = .ok (.invokespecial index, 3)) (hcode : Cond.code D.1 D.2.1 D.2.2.1 D.2.2.2 ∈ vt_tbl) (hret : D.2.2.2 = none) (hini : Cond.initialized D.1.cls ∈ vt_tbl) (hl : Cond.methodLink own index D.1 ∈ vt_tbl) (him : Cond.instanceMethod D.1 ∈ vt_tbl) (hnm : D.1.name = "<init>") (hdd : D.1.cls ≠ "java/lang/invoke/MethodHandle" ∧ D.1.cls ≠ "java/lang/invoke/VarHandle" ∧ (parseMethodDescriptor D.1.desc).map (fun d => d.parameters.length) = some As.length) (hml : D.2.2.1 ≤ 29) (hst : stk = As.reverse ++ .ref b :: rest) (hcat : (rest.map fun v => v.category).sum ≤ 8) (hro : d' + 1 ≤ R.frames ∧ 48 + 48 * d' ≤ R.locals) (h1 : cl + mc' ≤ R.cells) (h2 : sl + ms' ≤ R.slots) (hM : vc_M g d' mc' ms' D (.ref b :: As) [(b, e0)] P')
    (k : ∀ (w1 : va_W) (H1 : Heap) (locs1 : List Loc), P' w1 → va_P g.2.2.2.1 vt_cls (wr ++ w1) H1 → va_D A (wr ++ w1) → va_S A s.heap H1 locs1 → W p g.1 e R s m args below meth c H1 locs1 (cl + mc') (sl + ms') Q (F0 m (pc + 3) ls rest)) : W p g.1 e R s m args below meth c H locs cl sl Q (F0 m pc ls stk) := by
  have hF := vc_free hD hS hA
  have hw : vt_ws D = Cond.code D.1 D.2.1 D.2.2.1 none :: vt_tbl := by unfold vt_ws; rw [hret]
  refine va_callv (va_runI (As := As) (rest := rest) (bytes := D.2.1) (maxL := D.2.2.1) ⟨hx, hb, hmx, hown, hts⟩ (hM H.size) (cwI As.length hts (vc_goodIn D hcode) hw rfl rfl (hts _ hini) (hts _ hl) (hts _ him) hnm hdd ⟨hro.1, by show 8 + (D.2.2.1 + 11) + 48 * d' ≤ _; omega⟩) ⟨vc_blind, fun U hU hW => ⟨rfl, by rw [hU], by rw [hU]; exact fun k q hq => hP (wr.length + k) q (by rw [List.getElem?_append_right (by omega), Nat.add_sub_cancel_left]; exact hq), vc_K.moved hW hK, ⟨fun i j x y hi hj _ => ?_, fun _ _ _ => trivial⟩⟩⟩ rfl rfl hls hst (lv_room hcat) hd ⟨h1, h2⟩) hS (fun q _ h => hF q h) hF (fun w1 t H1 locs1 ht hvm hw1 hB hz1 hk1 hS1 => ?_)
  · have := (List.getElem?_eq_some_iff.mp hi).1
    have := (List.getElem?_eq_some_iff.mp hj).1
    simp only [List.length_cons, List.length_nil] at *
    omega
  · obtain ⟨hP1, hD1⟩ := hB
    rw [ht] at hP1
    obtain ⟨hP2, hD2⟩ := vc_join hP hD hk1 hF hP1 hD1
    exact k w1 H1 locs1 hw1 hP2 hD2 hS1
/-! the two worlds, one behind the other -/
def ad0 (a1 a2 : Nat → Nat) : Nat → Nat := fun k => if k < 168 then a1 k else a2 (k - 168)
theorem ly_X11_0 : ly_X11.map (shE 0) = ly_X11 := by decide +kernel
theorem st_world {cA : Nat → ClassId} {a1 a2 : Nat → Nat} : sgL cA (ad0 a1 a2) sg0 0 vt_lay = sgL cA a1 sc_X11 0 ly_X11 ++ sgL cA a2 sc_X12 0 ly_X12 := by
  have hl : vt_lay = ly_X11 ++ ly_X12.map (shE 168) := by rw [ly_X11_ok, ly_X12_ok, List.take_append_drop]
  have h1 : sgL cA (ad0 a1 a2) sg0 (0 + 0) (ly_X11.map (shE 0)) = sgL cA a1 sc_X11 0 ly_X11 := sg_shift (o := 0) (B := 168) (fun j hj => by
    show (if 0 + j < 168 then a1 (0 + j) else a2 (0 + j - 168)) = a1 j
    rw [if_pos (by omega), Nat.zero_add]) (fun j hj => by
    show (if 0 + j < 168 then sc_X11 (0 + j) else sc_X12 (0 + j - 168)) = sc_X11 j
    rw [if_pos (by omega), Nat.zero_add]) ly_X11 0 (by decide +kernel) (by decide +kernel)
  have h2 : sgL cA (ad0 a1 a2) sg0 (168 + 0) (ly_X12.map (shE 168)) = sgL cA a2 sc_X12 0 ly_X12 := sg_shift (o := 168) (B := 14) (fun j hj => by
    show (if 168 + j < 168 then a1 (168 + j) else a2 (168 + j - 168)) = a2 j
    rw [if_neg (by omega), show 168 + j - 168 = j by omega]) (fun j hj => by
    show (if 168 + j < 168 then sc_X11 (168 + j) else sc_X12 (168 + j - 168)) = sc_X12 j
    rw [if_neg (by omega), show 168 + j - 168 = j by omega]) ly_X12 0 (by decide +kernel) (by decide +kernel)
  rw [ly_X11_0] at h1
  rw [hl, sgL_app, show ly_X11.length = 168 from by decide +kernel]
  exact congr (congrArg HAppend.hAppend h1) h2
