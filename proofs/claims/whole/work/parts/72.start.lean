/-! THE LAW, FROM ITS ENTRY -/
def lw_P (b : Addr) (xs : List Int32) (args : Array Value) (s : State) : Prop := args = #[.ref b] ∧ s.IntsAt b xs ∧ xs.length ≤ 3072 ∧ (Jvm.Cond.and given_1 narrow_1).before args s = true
def lw_Q (_ : Array Value) (s : State) (o : Outcome) (t : State) : Prop := o = .returned (some (.int 1)) ∧ Framed s o t [] 600000 7302249
def lw_Z (below : List Frame) (a : Array Value) (s : State) : State → Prop := fun t => ∃ o, t.status = .running ∧ Ended t below o ∧ lw_Q a s o t
/-- the law's own end, with 1 on the stack, nothing written that was there before, its room as the claim has it -/
theorem lw_ret {p : Program} {l : Launch} {e : Env} {s : State} {m : MethodId} {below : List Frame} {meth : Method} {c : Code} {b : Nat} (hx : p.tables.exec = Jvm.exec) (hb : c.code = code) (hr : meth.sig.returnType = ret) (hlocks : meth.locks = false) {pc : Nat} {H : Heap} {ls : Array Slot} (hdg : decode code pc = .ok (.ireturn, 1)) : W p l e room_1 s m #[Value.ref b] below meth c H [] 600000 7302249 (lw_Z below #[Value.ref b] s) (F0 m pc ls [.int 1]) := by
  intro T hT X
  obtain ⟨fs, hret, hrun, hended, hW, hframe⟩ := X.leave (v := some (.int 1)) (hlocks := hlocks) (fun h => by rw [hr] at h; cases h)
  have hmeth' : T.vm.method? m = some meth := X.method'
  refine ⟨T.setFrames fs, ?_, .returned (some (.int 1)), hrun, hended, rfl, ⟨_, rfl⟩, hW, hframe⟩
  jvm_step X.here [X.here.top, hx, hb, hdg, hmeth', hr, ret, narrow_b1]
  (try refine ⟨rfl, ?_⟩); (try refine ⟨rfl, ?_⟩)
  first | (intro acts; rw [hret _ acts rfl rfl rfl]) | rw [hret _ _ rfl rfl rfl]
  exact Steps.refl _
/-- what holds at the law's entry: the machine, the code, the tables' words (any of lw_tbl by 'hts w (by decide +kernel)'), the script of L ints xs at the cell b, what the Statement gives of the start (any of its parts by flat_of_before) -/
def lw_At (p : Program) (s : State) (m : MethodId) (meth : Method) (c : Code) (b L : Nat) (xs : Nat → Int32) : Prop :=
  p.tables.exec = Jvm.exec ∧ c.code = code ∧ meth.sig.returnType = ret ∧ c.maxLocals = 4 ∧ s.vm.findClass R_law = some m.cls ∧ (∀ w ∈ lw_tbl, w.before #[Value.ref b] s = true) ∧ va_X b L xs s s.heap ∧ b < s.heap.size ∧ meth.locks = false ∧ (Jvm.Cond.and given_1 narrow_1).before #[Value.ref b] s = true
set_option maxHeartbeats 4000000 in
set_option maxRecDepth 100000 in
theorem whole_start {p : Program} {e : Env} {s : State} {m : MethodId} {below : List Frame} {meth : Method} {c : Code} (l : Launch) {b L : Nat} {xs : Nat → Int32} (hL : L ≤ 3072) (C0 : lw_At p s m meth c b L xs) : W p l e room_1 s m #[Value.ref b] below meth c s.heap [] 0 0 (lw_Z below #[Value.ref b] s) (entryFrame m ([Value.ref b] : List Value).toArray 4) := by
  obtain ⟨hx, hb, hr, hml, hown, htl, hX, hbl, hlocks, hgv⟩ := id C0
  have hts : ∀ w ∈ vt_tbl, w.before #[Value.ref b] s = true := fun w hw => htl w (List.mem_filter.mp hw).1
  have hF : ∀ w ∈ st_F, w.before #[Value.ref b] s = true := flat_of_before _ hgv
  have hA : ∀ q : Nat, s.heap.size ≤ q → (fun q : Nat => s.heap.size ≤ q) q := fun _ h => h
  have hAn : ∀ a : Nat, a < s.heap.size → ¬ (fun q : Nat => s.heap.size ≤ q) a := fun a h => Nat.not_le.mpr h
  obtain ⟨dC, dI, hKc⟩ := st_cls hts
  obtain ⟨c0, r0, f0⟩ := st_arr (hts _ ac_I)
  obtain ⟨c1, r1, f1⟩ := st_arr (hts _ ac_B)
  obtain ⟨c2, r2, f2⟩ := st_arr (hts _ ac_S)
  obtain ⟨c3, r3, f3⟩ := st_arr (hts _ ac_Z)
  obtain ⟨c4, r4, f4⟩ := st_arr2 (htl _ ao_I)
  obtain ⟨c5, r5, f5⟩ := st_arr2 (htl _ ao_S)
  obtain ⟨aK, aV, hStr⟩ := st_str (A := fun q : Nat => s.heap.size ≤ q) hF hAn
  have hZ1 : va_Z "java/lang/String" "COMPACT_STRINGS" "Z" (.int 1) (fun q : Nat => s.heap.size ≤ q) s s.heap := va_Zof (htl _ lz_C) (htl _ iz_C) (va_eqi (hF _ st_memC.1)) hAn
  have hZ2 : va_Zq "jdk/internal/util/Preconditions" "SIOOBE_FORMATTER" "Ljava/util/function/BiFunction;" (fun q : Nat => s.heap.size ≤ q) s s.heap := va_Zqof (htl _ lz_F) (htl _ iz_F) (hF _ st_memC.2) hAn
  obtain ⟨cA, e0, e1, e2, e3, e4, e5⟩ : ∃ cA : Nat → ClassId, cA 0 = c0 ∧ cA 1 = c1 ∧ cA 2 = c2 ∧ cA 3 = c3 ∧ cA 4 = c4 ∧ cA 5 = c5 := ⟨fun k => [c0, c1, c2, c3, c4, c5].getD k 0, rfl, rfl, rfl, rfl, rfl, rfl⟩
  subst e0 e1 e2 e3 e4 e5
  have hK : ∀ ad : Nat → Nat, va_K (dC, dI) vt_cls (vt_tys (l, ad, cA, (dC, dI), aK, aV)) s := fun ad => ⟨hKc, fun k q hq => by
    match k, hq with
    | 0, hq => cases hq; exact ⟨r0, f0⟩
    | 1, hq => cases hq; exact ⟨r1, f1⟩
    | 2, hq => cases hq; exact ⟨r2, f2⟩
    | 3, hq => cases hq; exact ⟨r3, f3⟩
    | 4, hq => cases hq; exact ⟨r4, f4⟩
    | 5, hq => cases hq; exact ⟨r5, f5⟩
    | n + 6, hq => simp [vt_tys] at hq⟩
  have hN : vc_N s := ⟨fun w hw => va_Nw.of (st_on w hw) (htl w (st_nw w hw)), va_AOA.of (htl _ ao_I), va_AOA.of (htl _ ao_S)⟩
  have hKN : vc_K (l, (fun _ => 0), cA, (dC, dI), aK, aV) s := ⟨hK _, hN⟩
  have hS0 : va_S (fun q : Nat => s.heap.size ≤ q) s.heap s.heap [] := va_S.rf
  have hP0 : va_P (dC, dI) vt_cls [] s.heap := fun k q h => by simp at h
  have hD0 : va_D (fun q : Nat => s.heap.size ≤ q) [] := ⟨fun i j p q h => by simp at h, fun k q h => by simp at h⟩
  have hl := lv_entry ([.ref b]) (n := 4) (Nat.le_of_ble_eq_true rfl)
  rw [lg_entry_eq]
  generalize (lg_sl ([.ref b]) ++ List.replicate (4 - (lg_sl ([.ref b])).length) Slot.unset).toArray = ls at hl ⊢
  have hl : lv_has ls 4 [(0, .ref b)] := hl
  refine va_new (ci := 11) (fs := [.null, .null, .int 0, .null, .null, .null, .null, .null, .null, .null, .int 0]) (C := RX11) (T := TX11) (N := 11) hx hb hts inX11_ok tyX11 tyX11_ok hown (hts _ cl_law7) (hts _ is_X11) (hts _ ni_X11_init) (hK (fun _ => 0)) hP0 hD0 hS0 hA rfl df_X11 (by decide) (by decide) dlaw_0 (fun q0 H hP hD hS => ?_)
  refine lv_dup hx hb dlaw_3 rfl ?_
  refine w_init (g := (l, (fun _ => 0), cA, (dC, dI), aK, aV)) (d' := 3) (As := []) (rest := [.ref q0]) (wr := []) hx hb hml hown hts hKN hA hP hD hS hl.1 dlaw_4 cd_X11_init rfl ni_X11_init ml_law9 im_X11_init rfl ⟨by decide, by decide, by decide +kernel⟩ (by decide) rfl (Nat.le_of_ble_eq_true rfl) ⟨by decide, by decide⟩ (by decide) (by decide) c_X11_init (fun w1 H locs hw1 hP hD hS => ?_)
  obtain ⟨a1, rfl, rfl⟩ := hw1
  refine lv_astore_n (lv' := [(1, .ref (a1 0)), (0, .ref b)]) hx hb dlaw_7 rfl hl (by decide) rfl (fun ls hl => ?_)
  refine va_new (ci := 12) (fs := [.null, .null, .int 0, .null, .int 0, .null, .int 0, .null, .null, .null, .int 0, .int 0, .int 0, .int 0, .int 0, .int 0, .null, .int 0, .int 0, .null, .null, .null, .null, .int 0, .int 0, .int 0, .int 0, .null]) (C := RX12) (T := TX12) (N := 28) hx hb hts inX12_ok tyX12 tyX12_ok hown (hts _ cl_law10) (hts _ is_X12) (hts _ ni_X12_init) (hK (fun _ => 0)) hP hD hS hA rfl df_X12 (by decide) (by decide) dlaw_8 (fun q1 H hP hD hS => ?_)
  refine lv_dup hx hb dlaw_11 rfl ?_
  refine w_init (g := (l, (fun _ => 0), cA, (dC, dI), aK, aV)) (d' := 1) (As := []) (rest := [.ref q1]) hx hb hml hown hts hKN hA hP hD hS hl.1 dlaw_12 cd_X12_init rfl ni_X12_init ml_law12 im_X12_init rfl ⟨by decide, by decide, by decide +kernel⟩ (by decide) rfl (Nat.le_of_ble_eq_true rfl) ⟨by decide, by decide⟩ (by decide) (by decide) c_X12_init (fun w1 H locs hw1 hP hD hS => ?_)
  obtain ⟨a2, rfl, rfl⟩ := hw1
  refine lv_astore_n (lv' := [(2, .ref (a2 0)), (1, .ref (a1 0)), (0, .ref b)]) hx hb dlaw_15 rfl hl (by decide) rfl (fun ls hl => ?_)
  refine lv_iconst (v := 0) hx hb dlaw_16 (by decide) ?_
  refine lv_istore_n (lv' := [(3, .int 0), (2, .ref (a2 0)), (1, .ref (a1 0)), (0, .ref b)]) hx hb dlaw_17 rfl hl (by decide) rfl (fun ls hl => ?_)
  refine va_forget (fun q hq => hS.2.2 q hq) ?_
  have hW : vt_W (l, ad0 a1 a2, cA, (dC, dI), aK, aV) sg0 = sgL cA a1 sc_X11 0 ly_X11 ++ sgL cA a2 sc_X12 0 ly_X12 := by
    rw [vt_W_sg]
    exact st_world
  have hP : va_P (dC, dI) vt_cls (vt_W (l, ad0 a1 a2, cA, (dC, dI), aK, aV) sg0) H := by rw [hW]; exact hP
  have hD : va_D (fun q : Nat => s.heap.size ≤ q) (vt_W (l, ad0 a1 a2, cA, (dC, dI), aK, aV) sg0) := by rw [hW]; exact hD
  have at' : ∀ i, i < vt_lay.length → ∃ x, (vt_W (l, ad0 a1 a2, cA, (dC, dI), aK, aV) sg0)[i]? = some (ad0 a1 a2 i, x) := fun i hi => ⟨_, vt_W_at (List.getElem?_eq_getElem hi)⟩
  have hinj : ∀ i j, i < vt_lay.length → j < vt_lay.length → ad0 a1 a2 i = ad0 a1 a2 j → i = j := fun i j hi hj hij => by
    obtain ⟨x, hx⟩ := at' i hi
    obtain ⟨y, hy⟩ := at' j hj
    exact hD.1 i j _ _ hx hy hij
  have hAB : ∀ q, vt_A (l, ad0 a1 a2, cA, (dC, dI), aK, aV) q → s.heap.size ≤ q := fun q hq => by
    obtain ⟨k, hk, rfl⟩ := hq
    obtain ⟨x, hx⟩ := at' k hk
    exact hD.2 k _ hx
  have hG : vt_G (l, ad0 a1 a2, cA, (dC, dI), aK, aV) s := ⟨hK _, hinj, fun i q hi => ⟨(hStr i q hi).2.1.narrow hAB, (hStr i q hi).2.2.1.narrow hAB, (hStr i q hi).2.2.2.1.narrow hAB, (hStr i q hi).2.2.2.2.narrow hAB⟩, fun i q hi => by
    obtain ⟨h9, rfl⟩ := sty_at hi
    exact vk_R.of (htl _ (st_ref i h9)) (hStr i _ hi).1, hZ1.narrow hAB, hZ2.narrow hAB⟩
  have hC : vt_C (l, ad0 a1 a2, cA, (dC, dI), aK, aV) D_law (some (b, L, xs)) p s m #[Value.ref b] c := ⟨hx, hb, hml, hown, hts, hG, fun b' L' xs' h => by
    cases h
    exact ⟨hX, hbl, fun z => absurd (hAB b z) (Nat.not_le.mpr hbl)⟩⟩
  have hS1 : va_S (vt_A (l, ad0 a1 a2, cA, (dC, dI), aK, aV)) s.heap H [] := ⟨hS.1, fun q hq _ => hS.2.1 q hq (Nat.not_le.mpr hq), fun _ h => by cases h⟩
  have hLs : vt_L 4 ls [some (.ref b), some (.ref (ad0 a1 a2 0)), some (.ref (ad0 a1 a2 168)), some (.int (nI (6 * 0)))] := ⟨hl.1, rfl, hl.2.1, fun i v hi => by
    match i, hi with
    | 0, hi => cases hi; exact hl.2.2 _ (.tail _ (.tail _ (.tail _ (.head _))))
    | 1, hi => cases hi; exact hl.2.2 _ (.tail _ (.tail _ (.head _)))
    | 2, hi => cases hi; exact hl.2.2 _ (.tail _ (.head _))
    | 3, hi => cases hi; exact hl.2.2 _ (.head _)
    | n + 4, hi => simp at hi⟩
  refine lw_loop (g := (l, ad0 a1 a2, cA, (dC, dI), aK, aV)) (P := fun v _ => v = some (.int 1)) hL ⟨by decide, by decide⟩ (fun _ => rfl) (L + 1) 0 sg0 (by omega) (by omega) Inv0 p e s m #[Value.ref b] below meth c H [] ls _ hC (fun v σ' H' locs' pc' ls' hv hP' hS' hret => ?_) hP hS1 hLs
  subst hv
  rcases hret with ⟨h, -, -⟩ | ⟨x0, ty, -, h2, -, h4⟩
  · cases h
  · refine va_forget (fun q hq => hAB _ (hS'.2.2 q hq)) (W.widen (k := 600000) (n := 7302249) (by decide) (by decide) ?_)
    exact lw_ret hx hb hr hlocks h4
