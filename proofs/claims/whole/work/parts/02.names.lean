def va_AOA (ty : FieldType) (U : State) : Prop := (Cond.arrayOver (.array ty)).before #[] U = true
theorem va_AOA.of {ty : FieldType} {A : Array Value} {U : State} (h : (Cond.arrayOver (.array ty)).before A U = true) : va_AOA ty U := h
theorem va_AOA.use {ty : FieldType} {A : Array Value} {U : State} (h : va_AOA ty U) : (Cond.arrayOver (.array ty)).before A U = true := h
/-! ===== BEGIN words of one list among another's, by their places ===== -/
theorem goodIn_r {big : List Cond} (ws : List Cond) (ps : List Nat) (hp : ws = ps.filterMap (fun i => big[i]?)) (h : ws.all goodWord = true) : GoodIn big ws := by
  intro w hw
  have h1 := List.all_eq_true.mp h w hw
  rw [hp] at hw
  obtain ⟨i, -, hi⟩ := List.mem_filterMap.mp hw
  have hm : w ∈ big := by first | exact List.mem_of_getElem? hi | exact List.getElem?_mem hi
  exact ⟨hm, good_of_word h1⟩
theorem goodIn_app {big a b : List Cond} (ha : GoodIn big a) (hb : GoodIn big b) : GoodIn big (a ++ b) := fun w h => (List.mem_append.mp h).elim (ha w) (hb w)
theorem goodIn_ca {big a b : List Cond} {c : Cond} (ha : GoodIn big (c :: a)) (hb : GoodIn big b) : GoodIn big (c :: (a ++ b)) := fun w h => (List.mem_cons.mp h).elim (fun e => ha w (List.mem_cons.mpr (Or.inl e))) (fun h => (List.mem_append.mp h).elim (fun h => ha w (List.mem_cons.mpr (Or.inr h))) (hb w))
theorem goodIn_sub {big ws : List Cond} (hm : ∀ w ∈ ws, w ∈ big) (h : ws.all goodWord = true) : GoodIn big ws := fun w hw => ⟨hm w hw, good_of_word (List.all_eq_true.mp h w hw)⟩
/-! ===== END ===== -/

/-! ===== BEGIN new T[n][m]: the outer array a place, the inner ones among the pooled ===== -/
/-- f, but v at every address of l -/
def vr_up {α : Type} (f : Nat → α) (l : List Nat) (v : α) : Nat → α := fun a => if a ∈ l then v else f a
theorem vr_up_in {α : Type} {f : Nat → α} {l : List Nat} {v : α} {a : Nat} (h : a ∈ l) : vr_up f l v a = v := if_pos h
theorem vr_up_ne {α : Type} {f : Nat → α} {l : List Nat} {v : α} {a : Nat} (h : a ∉ l) : vr_up f l v a = f a := if_neg h
theorem vr_rows {L l : List Nat} {f : Nat → va_E} {e : va_E} (h : ∀ a, a ∈ l → a ∉ L) : va_pl L f ++ l.map (fun a => (a, e)) = va_pl (L ++ l) (vr_up f l e) := by
  unfold va_pl
  rw [List.map_append]
  congr 1
  · apply List.map_congr_left
    intro a ha
    rw [vr_up_ne (fun q => h a q ha)]
  · apply List.map_congr_left
    intro a ha
    rw [vr_up_in ha]
theorem vr_lay {X rows : va_W} {x : Nat × va_E} {pl : va_W} {D : va_G} {cl : List vw_C} {H : Heap} (hP : va_P D cl (((X ++ pl) ++ [x]) ++ rows) H) : va_P D cl ((X ++ [x]) ++ (pl ++ rows)) H := by
  rw [List.append_assoc (X ++ pl)] at hP
  have h := va_P.swap hP
  rw [← List.append_assoc X] at h
  have h2 := va_P.swap h
  rw [List.append_assoc (X ++ [x])] at h2
  exact h2
theorem vr_layD {X rows : va_W} {x : Nat × va_E} {pl : va_W} {A : Nat → Prop} (hD : va_D A (((X ++ pl) ++ [x]) ++ rows)) : va_D A ((X ++ [x]) ++ (pl ++ rows)) := by
  rw [List.append_assoc (X ++ pl)] at hD
  have h := va_D.swap hD
  rw [← List.append_assoc X] at h
  have h2 := va_D.swap h
  rw [List.append_assoc (X ++ [x])] at h2
  exact h2
theorem vr_outer (c : ClassId) (N h0 : Nat) : ∀ i : Nat, Jvm.Free.Multi.outerC c N h0 i = arrV c N (fun j => va_rf (if j < i then some (h0 + 1 + j) else none))
  | 0 => by
    show ({ cls := c, slots := Array.replicate N .null, vm := .none } : Cell) = _
    rw [arrV_new]
    refine congrArg (arrV c N) (funext fun j => ?_)
    simp [va_rf]
  | i + 1 => by
    show (Jvm.Free.Multi.outerC c N h0 i).setSlot i (.ref (h0 + 1 + i)) = _
    rw [vr_outer c N h0 i, arrV_store]
    refine congrArg (arrV c N) (funext fun j => ?_)
    by_cases e : j = i
    · subst e
      simp [updV, va_rf]
    · by_cases h : j < i
      · simp [updV, e, h, Nat.lt_succ_of_lt h]
      · simp [updV, e, h, show ¬ j < i + 1 by omega]
section VGM
variable {p : Program} {l : Launch} {e : Env} {R : Room} {s : State} {m : MethodId} {args : Array Value} {below : List Frame} {meth : Method} {c : Code} {H : Heap} {locs : List Loc} {cells slots : Nat} {Q : State → Prop}
variable {cc : ByteArray} {pc : Nat} {ls : Array Slot} {rest : List Value} {D : va_G} {cl : List vw_C} {A : Nat → Prop} {a : Nat} {tys : List (ClassId × FieldType)} {ws : va_W} {H0 : Heap}
theorem va_mna {X : va_W} {L : List Nat} {f : Nat → va_E} {cc : ByteArray} (hexec : p.tables.exec = Jvm.exec) (hb : c.code = cc) {own : String} {index : Nat} {ty : FieldType} {cy : ClassId} (hown : s.vm.findClass own = some m.cls) (hclink : (Cond.classLink own index ("[" ++ (FieldType.array ty).toString)).before args s = true) (hover : va_AOA ty s) (harr : (Cond.arrayClass ty).before args s = true) (hcy : s.vm.findClass (FieldType.array ty).toString = some cy)
    (hK : va_K D cl tys s) (hP : va_P D cl (X ++ va_pl L f) H) (hD : va_D A (X ++ va_pl L f)) (hS : va_S A H0 H locs) (hA : ∀ q, H0.size ≤ q → A q) {n k : Int32} {N' K' : Nat} {z : vp_A} (hn : ¬ n < 0) (hk : ¬ k < 0) (hN : n.toNatClampNeg = N') (hM : k.toNatClampNeg = K')
    (hb1 : N' * 4 ≤ 536870912) (hb2 : K' * componentBytes ty ≤ 536870912) (hb3 : K' ≤ 536870912) (hdf : fits ty (defaultValue ty) = true) (hdd : (defaultValue ty).isDefault = true) (hcells : cells + (1 + N') ≤ R.cells) (hslots : slots + (N' + N' * K') ≤ R.slots) (hz : ∀ c : ClassId, Jvm.Free.Multi.innerC c K' (defaultValue ty) = vp_cell c z) (hdg : decode cc pc = .ok (.multianewarray index 2, 4))
    (kk : ∀ (q : Nat) (r : Nat → Nat) (cA : ClassId) (H1 : Heap), (∀ i j : Nat, i < N' → j < N' → r i = r j → i = j) → (∀ i : Nat, i < N' → r i ∉ L) → va_K D cl (tys ++ [(cA, .array ty)]) s →
      va_P D cl ((X ++ [(q, .inl (cA, N', .inr (.inr (.inr (.inr (fun i => if i < N' then some (r i) else none))))))]) ++ va_pl (L ++ (List.range N').map r) (vr_up f ((List.range N').map r) (.inl (cy, z)))) H1 → va_D A ((X ++ [(q, .inl (cA, N', .inr (.inr (.inr (.inr (fun i => if i < N' then some (r i) else none))))))]) ++ va_pl (L ++ (List.range N').map r) (vr_up f ((List.range N').map r) (.inl (cy, z)))) → va_S A H0 H1 locs →
      W p l e R s m args below meth c H1 locs (cells + 1 + N') (slots + N' + N' * K') Q (F0 m (pc + 4) ls (.ref q :: rest))) : W p l e R s m args below meth c H locs cells slots Q (F0 m pc ls (.int k :: .int n :: rest)) := by
  subst hN
  subst hM
  intro T hT Xs
  obtain ⟨vm₁, cA, comp, -, fA, fC, hO, -, X', step⟩ := Xs.multianewarray2F hexec hown hclink (va_AOA.use hover) harr (g := F0 m pc ls (.int k :: .int n :: rest)) rfl (by rw [hb]; exact hdg) rfl hn hk hb1 hb2 hb3 hdf hdd hcells hslots
  have ec : some cy = some comp := hcy.symm.trans fC
  cases ec
  generalize hF : Jvm.Free.Multi.fill (T.setVm vm₁) cA cy n.toNatClampNeg k.toNatClampNeg (defaultValue ty) n.toNatClampNeg = F at X' step
  have hTh : (T.setVm vm₁).heap = H := hT
  obtain ⟨f1, f2, -, -⟩ := Jvm.Free.Multi.fill_facts (T.setVm vm₁) cA cy n.toNatClampNeg k.toNatClampNeg (defaultValue ty) n.toNatClampNeg
  rw [hF, hTh] at f1 f2
  have hold : ∀ x : Nat, x < H.size → F.heap[x]? = H[x]? := fun x hx => by
    have := Jvm.Free.Multi.fill_old (T.setVm vm₁) cA cy n.toNatClampNeg k.toNatClampNeg (defaultValue ty) (a := x) (by rw [hTh]; exact hx) n.toNatClampNeg
    rw [hF, hTh] at this
    exact this
  have hrow : ∀ j : Nat, j < n.toNatClampNeg → F.heap[H.size + 1 + j]? = some (vp_cell cy z) := fun j hj => by
    have := Jvm.Free.Multi.fill_inner (T.setVm vm₁) cA cy n.toNatClampNeg k.toNatClampNeg (defaultValue ty) n.toNatClampNeg j hj
    rw [hF, hTh, hz] at this
    exact this
  have hout : Jvm.Free.Multi.outerC cA n.toNatClampNeg H.size n.toNatClampNeg = vp_cell cA (n.toNatClampNeg, .inr (.inr (.inr (.inr (fun i => if i < n.toNatClampNeg then some (H.size + 1 + i) else none))))) := by
    rw [vp_cell_q]
    exact vr_outer cA n.toNatClampNeg H.size n.toNatClampNeg
  rw [hout] at f2
  have hlt : ∀ a, a ∈ L → a < H.size := fun a ha => by
    obtain ⟨k9, hk9⟩ := va_pl_get (X := X) (f := f) ha
    exact (hP k9 _ hk9).lt
  have hnl : ∀ i : Nat, i < n.toNatClampNeg → H.size + 1 + i ∉ L := fun i _ h => by
    have := hlt _ h
    omega
  have hnm : ∀ a, a ∈ (List.range n.toNatClampNeg).map (fun i => H.size + 1 + i) → a ∉ L := fun a ha h => by
    obtain ⟨i, -, rfl⟩ := List.mem_map.mp ha
    have := hlt _ h
    omega
  have hP0 : va_P D cl (X ++ va_pl L f) F.heap := hP.kept (fun k9 x hx => hold x.1 ((hP k9 x hx).lt))
  have hP1 : va_P D cl ((X ++ va_pl L f) ++ [(H.size, .inl (cA, n.toNatClampNeg, .inr (.inr (.inr (.inr (fun i => if i < n.toNatClampNeg then some (H.size + 1 + i) else none))))))]) F.heap := hP0.app (fun k9 x hx => by
    have h0 : k9 < 1 := (List.getElem?_eq_some_iff.mp hx).1
    rw [show k9 = 0 by omega] at hx
    cases hx
    exact f2)
  have hP2 : va_P D cl (((X ++ va_pl L f) ++ [(H.size, .inl (cA, n.toNatClampNeg, .inr (.inr (.inr (.inr (fun i => if i < n.toNatClampNeg then some (H.size + 1 + i) else none))))))]) ++ ((List.range n.toNatClampNeg).map (fun i => H.size + 1 + i)).map (fun a => (a, .inl (cy, z)))) F.heap := hP1.app (fun k9 x hx => by
    obtain ⟨a, ha, rfl⟩ := List.mem_map.mp (List.mem_of_getElem? hx)
    obtain ⟨i, hi, rfl⟩ := List.mem_map.mp ha
    exact hrow i (List.mem_range.mp hi))
  have hD2 : va_D A (((X ++ va_pl L f) ++ [(H.size, .inl (cA, n.toNatClampNeg, .inr (.inr (.inr (.inr (fun i => if i < n.toNatClampNeg then some (H.size + 1 + i) else none))))))]) ++ ((List.range n.toNatClampNeg).map (fun i => H.size + 1 + i)).map (fun a => (a, .inl (cy, z)))) := by
    have hD1 := hD.push (e := .inl (cA, n.toNatClampNeg, .inr (.inr (.inr (.inr (fun i => if i < n.toNatClampNeg then some (H.size + 1 + i) else none)))))) hP rfl (hA _ hS.1)
    generalize hW1 : (X ++ va_pl L f) ++ [(H.size, .inl (cA, n.toNatClampNeg, .inr (.inr (.inr (.inr (fun i => if i < n.toNatClampNeg then some (H.size + 1 + i) else none))))))] = W1 at hD1 hP1 ⊢
    have hle : ∀ (k9 : Nat) (x : Nat × va_E), W1[k9]? = some x → x.1 ≤ H.size := fun k9 x hx => by
      rw [← hW1] at hx
      by_cases hl : k9 < (X ++ va_pl L f).length
      · rw [List.getElem?_append_left hl] at hx
        exact Nat.le_of_lt ((hP k9 x hx).lt)
      · rw [List.getElem?_append_right (by omega)] at hx
        have h0 : k9 - (X ++ va_pl L f).length < 1 := (List.getElem?_eq_some_iff.mp hx).1
        rw [show k9 - (X ++ va_pl L f).length = 0 by omega] at hx
        cases hx
        exact Nat.le_refl _
    have hr : ∀ (k9 : Nat) (x : Nat × va_E), (((List.range n.toNatClampNeg).map (fun i => H.size + 1 + i)).map (fun a => ((a, .inl (cy, z)) : Nat × va_E)))[k9]? = some x → x.1 = H.size + 1 + k9 := fun k9 x hx => by
      rw [List.getElem?_map, List.getElem?_map] at hx
      by_cases h9 : k9 < n.toNatClampNeg
      · rw [List.getElem?_range h9] at hx
        cases hx
        rfl
      · have hn0 : (List.range n.toNatClampNeg)[k9]? = none := List.getElem?_eq_none (by rw [List.length_range]; omega)
        rw [hn0] at hx
        cases hx
    refine ⟨fun i j x y hi hj hxy => ?_, fun k9 x hx => ?_⟩
    · by_cases h1 : i < W1.length <;> by_cases h2 : j < W1.length
      · rw [List.getElem?_append_left h1] at hi
        rw [List.getElem?_append_left h2] at hj
        exact hD1.1 i j x y hi hj hxy
      · rw [List.getElem?_append_left h1] at hi
        rw [List.getElem?_append_right (by omega)] at hj
        have := hle _ _ hi
        have := hr _ _ hj
        omega
      · rw [List.getElem?_append_right (by omega)] at hi
        rw [List.getElem?_append_left h2] at hj
        have := hle _ _ hj
        have := hr _ _ hi
        omega
      · rw [List.getElem?_append_right (by omega)] at hi hj
        have := hr _ _ hi
        have := hr _ _ hj
        omega
    · by_cases h1 : k9 < W1.length
      · rw [List.getElem?_append_left h1] at hx
        exact hD1.2 k9 x hx
      · rw [List.getElem?_append_right (by omega)] at hx
        have := hr _ _ hx
        exact hA _ (by have := hS.1; omega)
  have hAr : ArrOfT s cA (.array ty) := fun N9 z9 => by
    obtain ⟨-, k9, hk9, cm9, hkk9⟩ := (hO 0 0 0).1
    exact ⟨(fun q hq => by cases hq), k9, hk9, cm9, hkk9⟩
  have hK2 : va_K D cl (tys ++ [(cA, .array ty)]) s := ⟨hK.1, fun k9 x hx => by
    by_cases hl : k9 < tys.length
    · rw [List.getElem?_append_left hl] at hx
      exact hK.2 k9 x hx
    · rw [List.getElem?_append_right (by omega)] at hx
      have h0 : k9 - tys.length < 1 := (List.getElem?_eq_some_iff.mp hx).1
      rw [show k9 - tys.length = 0 by omega] at hx
      cases hx
      exact ⟨hAr, fA⟩⟩
  obtain ⟨t, a1, b1⟩ := kk H.size (fun i => H.size + 1 + i) cA F.heap (fun i j _ _ h => by have h9 : H.size + 1 + i = H.size + 1 + j := h; omega) hnl hK2 (by rw [← vr_rows hnm]; exact vr_lay hP2) (by rw [← vr_rows hnm]; exact vr_layD hD2) ⟨by rw [f1]; have := hS.1; omega, fun x h1 h2 => (hold x (Nat.lt_of_lt_of_le h1 hS.1)).trans (hS.2.1 x h1 h2), hS.2.2⟩ F rfl X'
  refine ⟨t, step t ?_, b1⟩
  have e : T.heap.size = H.size := by rw [hT]
  rw [e]
  exact a1
end VGM
/-! ===== END ===== -/

def RX0 : String := "ArcadeRents$Arcade"
def TX0 : u_T := fun k => match k with
  | 0 => ("ArcadeRents$Arcade", "feet", "[I", true)
  | 1 => ("ArcadeRents$Arcade", "rules", "[I", true)
  | 2 => ("ArcadeRents$Arcade", "doors", "LArcadeRents$Doors;", true)
  | 3 => ("ArcadeRents$Arcade", "shops", "LArcadeRents$Shops;", true)
  | 4 => ("ArcadeRents$Arcade", "moves", "LArcadeRents$Moves;", true)
  | 5 => ("ArcadeRents$Arcade", "lines", "LArcadeRents$Lines;", true)
  | 6 => ("ArcadeRents$Arcade", "leases", "LArcadeRents$Leases;", true)
  | 7 => ("ArcadeRents$Arcade", "left", "[I", true)
  | 8 => ("ArcadeRents$Arcade", "leavers", "I", false)
  | _ => ("ArcadeRents$Arcade", "today", "I", false)
def tyX0 : Nat → FieldType := fun k => match k with
  | 0 => .array .int
  | 1 => .array .int
  | 2 => .object "ArcadeRents$Doors"
  | 3 => .object "ArcadeRents$Shops"
  | 4 => .object "ArcadeRents$Moves"
  | 5 => .object "ArcadeRents$Lines"
  | 6 => .object "ArcadeRents$Leases"
  | 7 => .array .int
  | 8 => .int
  | _ => .int
abbrev wsX00 : List Cond := u_ws RX0 TX0 10
theorem nmX0 : ∀ a, a < 10 → ∀ b, b < 10 → a ≠ b → (TX0 a).2.1 ≠ (TX0 b).2.1 := by decide +kernel
theorem tyX0_ok : ∀ k, k < 10 → parseFieldDescriptor (TX0 k).2.2.1 = some (tyX0 k) := by decide +kernel
abbrev cX0_init : ByteArray := prog_2_method_1_code
def yX0_init : MethodName := ⟨RX0, "<init>", "()V"⟩
abbrev cX0_become : ByteArray := prog_2_method_2_code
def yX0_become : MethodName := ⟨RX0, "become", "(LArcadeRents$Arcade;)V"⟩
def RX1 : String := "ArcadeRents$Calc"
def TX1 : u_T := fun k => match k with
  | 0 => ("ArcadeRents$Calc", "stack", "[I", true)
  | _ => ("ArcadeRents$Calc", "top", "I", false)
def tyX1 : Nat → FieldType := fun k => match k with
  | 0 => .array .int
  | _ => .int
abbrev wsX10 : List Cond := u_ws RX1 TX1 2
theorem nmX1 : ∀ a, a < 2 → ∀ b, b < 2 → a ≠ b → (TX1 a).2.1 ≠ (TX1 b).2.1 := by decide +kernel
theorem tyX1_ok : ∀ k, k < 2 → parseFieldDescriptor (TX1 k).2.2.1 = some (tyX1 k) := by decide +kernel
abbrev cX1_init : ByteArray := prog_3_method_1_code
def yX1_init : MethodName := ⟨RX1, "<init>", "()V"⟩
abbrev cX1_work : ByteArray := prog_3_method_2_code
def yX1_work : MethodName := ⟨RX1, "work", "(LArcadeRents$Crowd;III)I"⟩
abbrev cX1_push : ByteArray := prog_3_method_3_code
def yX1_push : MethodName := ⟨RX1, "push", "(I)V"⟩
abbrev cX1_apply : ByteArray := prog_3_method_4_code
def yX1_apply : MethodName := ⟨RX1, "apply", "(I)V"⟩
abbrev cX1_join : ByteArray := prog_3_method_5_code
def yX1_join : MethodName := ⟨RX1, "join", "(III)I"⟩
abbrev cX1_valueOf : ByteArray := prog_3_method_6_code
def yX1_valueOf : MethodName := ⟨RX1, "valueOf", "(ILArcadeRents$Crowd;II)I"⟩
def RX2 : String := "ArcadeRents$Crowd"
def TX2 : u_T := fun k => match k with
  | 0 => ("ArcadeRents$Crowd", "arcade", "LArcadeRents$Arcade;", true)
  | 1 => ("ArcadeRents$Crowd", "month", "I", false)
  | 2 => ("ArcadeRents$Crowd", "in", "I", false)
  | 3 => ("ArcadeRents$Crowd", "placeOf", "[I", true)
  | 4 => ("ArcadeRents$Crowd", "shopAt", "[I", true)
  | 5 => ("ArcadeRents$Crowd", "comers", "[I", true)
  | _ => ("ArcadeRents$Crowd", "past", "[I", true)
def tyX2 : Nat → FieldType := fun k => match k with
  | 0 => .object "ArcadeRents$Arcade"
  | 1 => .int
  | 2 => .int
  | 3 => .array .int
  | 4 => .array .int
  | 5 => .array .int
  | _ => .array .int
abbrev wsX20 : List Cond := u_ws RX2 TX2 7
theorem nmX2 : ∀ a, a < 7 → ∀ b, b < 7 → a ≠ b → (TX2 a).2.1 ≠ (TX2 b).2.1 := by decide +kernel
theorem tyX2_ok : ∀ k, k < 7 → parseFieldDescriptor (TX2 k).2.2.1 = some (tyX2 k) := by decide +kernel
abbrev cX2_init : ByteArray := prog_4_method_1_code
def yX2_init : MethodName := ⟨RX2, "<init>", "(LArcadeRents$Arcade;)V"⟩
abbrev cX2_look : ByteArray := prog_4_method_2_code
def yX2_look : MethodName := ⟨RX2, "look", "(I)V"⟩
abbrev cX2_sendOut : ByteArray := prog_4_method_3_code
def yX2_sendOut : MethodName := ⟨RX2, "sendOut", "(I)V"⟩
abbrev cX2_settle : ByteArray := prog_4_method_4_code
def yX2_settle : MethodName := ⟨RX2, "settle", "()V"⟩
abbrev cX2_walk : ByteArray := prog_4_method_5_code
def yX2_walk : MethodName := ⟨RX2, "walk", "(III)V"⟩
abbrev cX2_foretold : ByteArray := prog_4_method_6_code
def yX2_foretold : MethodName := ⟨RX2, "foretold", "(I)I"⟩
abbrev cX2_others : ByteArray := prog_4_method_7_code
def yX2_others : MethodName := ⟨RX2, "others", "(I)I"⟩
abbrev cX2_anchors : ByteArray := prog_4_method_8_code
def yX2_anchors : MethodName := ⟨RX2, "anchors", "(I)I"⟩
abbrev cX2_beside : ByteArray := prog_4_method_9_code
def yX2_beside : MethodName := ⟨RX2, "beside", "(I)I"⟩
abbrev cX2_rivalNear : ByteArray := prog_4_method_10_code
def yX2_rivalNear : MethodName := ⟨RX2, "rivalNear", "(I)Z"⟩
abbrev cX2_breaks : ByteArray := prog_4_method_11_code
def yX2_breaks : MethodName := ⟨RX2, "breaks", "(II)Z"⟩
abbrev cX2_chargedFeet : ByteArray := prog_4_method_12_code
def yX2_chargedFeet : MethodName := ⟨RX2, "chargedFeet", "(I)I"⟩
def RX3 : String := "ArcadeRents$Doors"
def TX3 : u_T := fun k => match k with
  | 0 => ("ArcadeRents$Doors", "place", "[I", true)
  | 1 => ("ArcadeRents$Doors", "people", "[I", true)
  | _ => ("ArcadeRents$Doors", "many", "I", false)
def tyX3 : Nat → FieldType := fun k => match k with
  | 0 => .array .int
  | 1 => .array .int
  | _ => .int
abbrev wsX30 : List Cond := u_ws RX3 TX3 3
theorem nmX3 : ∀ a, a < 3 → ∀ b, b < 3 → a ≠ b → (TX3 a).2.1 ≠ (TX3 b).2.1 := by decide +kernel
theorem tyX3_ok : ∀ k, k < 3 → parseFieldDescriptor (TX3 k).2.2.1 = some (tyX3 k) := by decide +kernel
abbrev cX3_init : ByteArray := prog_5_method_1_code
def yX3_init : MethodName := ⟨RX3, "<init>", "()V"⟩
abbrev cX3_has : ByteArray := prog_5_method_2_code
def yX3_has : MethodName := ⟨RX3, "has", "(I)Z"⟩
abbrev cX3_add : ByteArray := prog_5_method_3_code
def yX3_add : MethodName := ⟨RX3, "add", "(II)I"⟩
abbrev cX3_become : ByteArray := prog_5_method_4_code
def yX3_become : MethodName := ⟨RX3, "become", "(LArcadeRents$Doors;)V"⟩
def RX4 : String := "ArcadeRents$Leases"
def TX4 : u_T := fun k => match k with
  | 0 => ("ArcadeRents$Leases", "held", "[Z", true)
  | 1 => ("ArcadeRents$Leases", "steps", "[[I", true)
  | _ => ("ArcadeRents$Leases", "ends", "[[I", true)
def tyX4 : Nat → FieldType := fun k => match k with
  | 0 => .array .boolean
  | 1 => .array (.array .int)
  | _ => .array (.array .int)
abbrev wsX40 : List Cond := u_ws RX4 TX4 3
theorem nmX4 : ∀ a, a < 3 → ∀ b, b < 3 → a ≠ b → (TX4 a).2.1 ≠ (TX4 b).2.1 := by decide +kernel
theorem tyX4_ok : ∀ k, k < 3 → parseFieldDescriptor (TX4 k).2.2.1 = some (tyX4 k) := by decide +kernel
abbrev cX4_init : ByteArray := prog_6_method_1_code
def yX4_init : MethodName := ⟨RX4, "<init>", "()V"⟩
abbrev cX4_store : ByteArray := prog_6_method_2_code
def yX4_store : MethodName := ⟨RX4, "store", "(ILArcadeRents$Reader;)V"⟩
abbrev cX4_countHeld : ByteArray := prog_6_method_3_code
def yX4_countHeld : MethodName := ⟨RX4, "countHeld", "()I"⟩
abbrev cX4_become : ByteArray := prog_6_method_4_code
def yX4_become : MethodName := ⟨RX4, "become", "(LArcadeRents$Leases;)V"⟩
def RX5 : String := "ArcadeRents$Lines"
def TX5 : u_T := fun k => match k with
  | 0 => ("ArcadeRents$Lines", "shop", "[I", true)
  | 1 => ("ArcadeRents$Lines", "month", "[I", true)
  | 2 => ("ArcadeRents$Lines", "coins", "[I", true)
  | 3 => ("ArcadeRents$Lines", "told", "[I", true)
  | 4 => ("ArcadeRents$Lines", "withdrawn", "[I", true)
  | _ => ("ArcadeRents$Lines", "many", "I", false)
def tyX5 : Nat → FieldType := fun k => match k with
  | 0 => .array .int
  | 1 => .array .int
  | 2 => .array .int
  | 3 => .array .int
  | 4 => .array .int
  | _ => .int
abbrev wsX50 : List Cond := u_ws RX5 TX5 6
theorem nmX5 : ∀ a, a < 6 → ∀ b, b < 6 → a ≠ b → (TX5 a).2.1 ≠ (TX5 b).2.1 := by decide +kernel
theorem tyX5_ok : ∀ k, k < 6 → parseFieldDescriptor (TX5 k).2.2.1 = some (tyX5 k) := by decide +kernel
abbrev cX5_init : ByteArray := prog_7_method_1_code
def yX5_init : MethodName := ⟨RX5, "<init>", "()V"⟩
abbrev cX5_has : ByteArray := prog_7_method_2_code
def yX5_has : MethodName := ⟨RX5, "has", "(I)Z"⟩
abbrev cX5_add : ByteArray := prog_7_method_3_code
def yX5_add : MethodName := ⟨RX5, "add", "(IIII)I"⟩
abbrev cX5_sum : ByteArray := prog_7_method_4_code
def yX5_sum : MethodName := ⟨RX5, "sum", "(III)I"⟩
abbrev cX5_counts : ByteArray := prog_7_method_5_code
def yX5_counts : MethodName := ⟨RX5, "counts", "(II)Z"⟩
abbrev cX5_countWithdrawn : ByteArray := prog_7_method_6_code
def yX5_countWithdrawn : MethodName := ⟨RX5, "countWithdrawn", "()I"⟩
abbrev cX5_become : ByteArray := prog_7_method_7_code
def yX5_become : MethodName := ⟨RX5, "become", "(LArcadeRents$Lines;)V"⟩
def RX6 : String := "ArcadeRents$Mix"
def TX6 : u_T := fun k => match k with
  | 0 => ("ArcadeRents$Mix", "best", "[I", true)
  | 1 => ("ArcadeRents$Mix", "bestWorth", "I", false)
  | 2 => ("ArcadeRents$Mix", "bestMany", "I", false)
  | 3 => ("ArcadeRents$Mix", "put", "[I", true)
  | 4 => ("ArcadeRents$Mix", "worth", "[[I", true)
  | 5 => ("ArcadeRents$Mix", "rivals", "[[I", true)
  | 6 => ("ArcadeRents$Mix", "fit", "[[I", true)
  | 7 => ("ArcadeRents$Mix", "tries", "I", false)
  | _ => ("ArcadeRents$Mix", "most", "I", false)
def tyX6 : Nat → FieldType := fun k => match k with
  | 0 => .array .int
  | 1 => .int
  | 2 => .int
  | 3 => .array .int
  | 4 => .array (.array .int)
  | 5 => .array (.array .int)
  | 6 => .array (.array .int)
  | 7 => .int
  | _ => .int
abbrev wsX60 : List Cond := u_ws RX6 TX6 9
theorem nmX6 : ∀ a, a < 9 → ∀ b, b < 9 → a ≠ b → (TX6 a).2.1 ≠ (TX6 b).2.1 := by decide +kernel
theorem tyX6_ok : ∀ k, k < 9 → parseFieldDescriptor (TX6 k).2.2.1 = some (tyX6 k) := by decide +kernel
abbrev cX6_init : ByteArray := prog_8_method_1_code
def yX6_init : MethodName := ⟨RX6, "<init>", "()V"⟩
abbrev cX6_search : ByteArray := prog_8_method_2_code
def yX6_search : MethodName := ⟨RX6, "search", "(LArcadeRents$Crowd;I)Z"⟩
abbrev cX6_prepare : ByteArray := prog_8_method_3_code
def yX6_prepare : MethodName := ⟨RX6, "prepare", "(LArcadeRents$Arcade;I)V"⟩
abbrev cX6_fitAtFirst : ByteArray := prog_8_method_4_code
def yX6_fitAtFirst : MethodName := ⟨RX6, "fitAtFirst", "(LArcadeRents$Crowd;I)I"⟩
abbrev cX6_extend : ByteArray := prog_8_method_5_code
def yX6_extend : MethodName := ⟨RX6, "extend", "(III)Z"⟩
abbrev cX6_narrow : ByteArray := prog_8_method_6_code
def yX6_narrow : MethodName := ⟨RX6, "narrow", "(III)V"⟩
abbrev cX6_compare : ByteArray := prog_8_method_7_code
def yX6_compare : MethodName := ⟨RX6, "compare", "(II)V"⟩
def RX7 : String := "ArcadeRents$Moves"
def TX7 : u_T := fun k => match k with
  | 0 => ("ArcadeRents$Moves", "shop", "[I", true)
  | 1 => ("ArcadeRents$Moves", "month", "[I", true)
  | 2 => ("ArcadeRents$Moves", "place", "[I", true)
  | _ => ("ArcadeRents$Moves", "many", "I", false)
def tyX7 : Nat → FieldType := fun k => match k with
  | 0 => .array .int
  | 1 => .array .int
  | 2 => .array .int
  | _ => .int
abbrev wsX70 : List Cond := u_ws RX7 TX7 4
theorem nmX7 : ∀ a, a < 4 → ∀ b, b < 4 → a ≠ b → (TX7 a).2.1 ≠ (TX7 b).2.1 := by decide +kernel
theorem tyX7_ok : ∀ k, k < 4 → parseFieldDescriptor (TX7 k).2.2.1 = some (tyX7 k) := by decide +kernel
abbrev cX7_init : ByteArray := prog_9_method_1_code
def yX7_init : MethodName := ⟨RX7, "<init>", "()V"⟩
abbrev cX7_add : ByteArray := prog_9_method_2_code
def yX7_add : MethodName := ⟨RX7, "add", "(III)V"⟩
abbrev cX7_become : ByteArray := prog_9_method_3_code
def yX7_become : MethodName := ⟨RX7, "become", "(LArcadeRents$Moves;)V"⟩
def RX8 : String := "ArcadeRents$Reader"
def TX8 : u_T := fun k => match k with
  | 0 => ("ArcadeRents$Reader", "size", "I", false)
  | 1 => ("ArcadeRents$Reader", "steps", "[I", true)
  | 2 => ("ArcadeRents$Reader", "ends", "[I", true)
  | 3 => ("ArcadeRents$Reader", "leaves", "I", false)
  | 4 => ("ArcadeRents$Reader", "tape", "[B", true)
  | 5 => ("ArcadeRents$Reader", "many", "I", false)
  | 6 => ("ArcadeRents$Reader", "at", "I", false)
  | 7 => ("ArcadeRents$Reader", "token", "I", false)
  | 8 => ("ArcadeRents$Reader", "start", "I", false)
  | _ => ("ArcadeRents$Reader", "value", "I", false)
def tyX8 : Nat → FieldType := fun k => match k with
  | 0 => .int
  | 1 => .array .int
  | 2 => .array .int
  | 3 => .int
  | 4 => .array .byte
  | 5 => .int
  | 6 => .int
  | 7 => .int
  | 8 => .int
  | _ => .int
abbrev wsX80 : List Cond := u_ws RX8 TX8 10
theorem nmX8 : ∀ a, a < 10 → ∀ b, b < 10 → a ≠ b → (TX8 a).2.1 ≠ (TX8 b).2.1 := by decide +kernel
theorem tyX8_ok : ∀ k, k < 10 → parseFieldDescriptor (TX8 k).2.2.1 = some (tyX8 k) := by decide +kernel
abbrev cX8_init : ByteArray := prog_10_method_1_code
def yX8_init : MethodName := ⟨RX8, "<init>", "()V"⟩
abbrev cX8_append : ByteArray := prog_10_method_2_code
def yX8_append : MethodName := ⟨RX8, "append", "(I)V"⟩
abbrev cX8_findFault : ByteArray := prog_10_method_3_code
def yX8_findFault : MethodName := ⟨RX8, "findFault", "()I"⟩
abbrev cX8_expression : ByteArray := prog_10_method_4_code
def yX8_expression : MethodName := ⟨RX8, "expression", "(III)Z"⟩
abbrev cX8_part : ByteArray := prog_10_method_5_code
def yX8_part : MethodName := ⟨RX8, "part", "(II)Z"⟩
abbrev cX8_levelOf : ByteArray := prog_10_method_6_code
def yX8_levelOf : MethodName := ⟨RX8, "levelOf", "(I)I"⟩
abbrev cX8_emit : ByteArray := prog_10_method_7_code
def yX8_emit : MethodName := ⟨RX8, "emit", "(I)V"⟩
abbrev cX8_advance : ByteArray := prog_10_method_8_code
def yX8_advance : MethodName := ⟨RX8, "advance", "()V"⟩
abbrev cX8_numberToken : ByteArray := prog_10_method_9_code
def yX8_numberToken : MethodName := ⟨RX8, "numberToken", "()I"⟩
abbrev cX8_lettersToken : ByteArray := prog_10_method_10_code
def yX8_lettersToken : MethodName := ⟨RX8, "lettersToken", "(I)I"⟩
abbrev cX8_reads : ByteArray := prog_10_method_11_code
def yX8_reads : MethodName := ⟨RX8, "reads", "(Ljava/lang/String;)Z"⟩
abbrev cX8_isDigit : ByteArray := prog_10_method_12_code
def yX8_isDigit : MethodName := ⟨RX8, "isDigit", "(I)Z"⟩
abbrev cX8_isLetter : ByteArray := prog_10_method_13_code
def yX8_isLetter : MethodName := ⟨RX8, "isLetter", "(I)Z"⟩
def RX9 : String := "ArcadeRents$Sheets"
def TX9 : u_T := fun k => match k with
  | 0 => ("ArcadeRents$Sheets", "rows", "[[S", true)
  | _ => ("ArcadeRents$Sheets", "sizes", "[I", true)
def tyX9 : Nat → FieldType := fun k => match k with
  | 0 => .array (.array .short)
  | _ => .array .int
abbrev wsX90 : List Cond := u_ws RX9 TX9 2
theorem nmX9 : ∀ a, a < 2 → ∀ b, b < 2 → a ≠ b → (TX9 a).2.1 ≠ (TX9 b).2.1 := by decide +kernel
theorem tyX9_ok : ∀ k, k < 2 → parseFieldDescriptor (TX9 k).2.2.1 = some (tyX9 k) := by decide +kernel
abbrev cX9_init : ByteArray := prog_11_method_1_code
def yX9_init : MethodName := ⟨RX9, "<init>", "()V"⟩
abbrev cX9_isSheet : ByteArray := prog_11_method_2_code
def yX9_isSheet : MethodName := ⟨RX9, "isSheet", "(I)Z"⟩
abbrev cX9_isMissing : ByteArray := prog_11_method_3_code
def yX9_isMissing : MethodName := ⟨RX9, "isMissing", "(I)Z"⟩
abbrev cX9_begin : ByteArray := prog_11_method_4_code
def yX9_begin : MethodName := ⟨RX9, "begin", "(II)V"⟩
abbrev cX9_reaches : ByteArray := prog_11_method_5_code
def yX9_reaches : MethodName := ⟨RX9, "reaches", "(III)Z"⟩
def RX10 : String := "ArcadeRents$Shops"
def TX10 : u_T := fun k => match k with
  | 0 => ("ArcadeRents$Shops", "kind", "[I", true)
  | 1 => ("ArcadeRents$Shops", "sort", "[I", true)
  | 2 => ("ArcadeRents$Shops", "pull", "[I", true)
  | 3 => ("ArcadeRents$Shops", "lure", "[I", true)
  | 4 => ("ArcadeRents$Shops", "near", "[I", true)
  | 5 => ("ArcadeRents$Shops", "spend", "[I", true)
  | 6 => ("ArcadeRents$Shops", "ask", "[I", true)
  | _ => ("ArcadeRents$Shops", "many", "I", false)
def tyX10 : Nat → FieldType := fun k => match k with
  | 0 => .array .int
  | 1 => .array .int
  | 2 => .array .int
  | 3 => .array .int
  | 4 => .array .int
  | 5 => .array .int
  | 6 => .array .int
  | _ => .int
abbrev wsX100 : List Cond := u_ws RX10 TX10 8
theorem nmX10 : ∀ a, a < 8 → ∀ b, b < 8 → a ≠ b → (TX10 a).2.1 ≠ (TX10 b).2.1 := by decide +kernel
theorem tyX10_ok : ∀ k, k < 8 → parseFieldDescriptor (TX10 k).2.2.1 = some (tyX10 k) := by decide +kernel
abbrev cX10_init : ByteArray := prog_12_method_1_code
def yX10_init : MethodName := ⟨RX10, "<init>", "()V"⟩
abbrev cX10_has : ByteArray := prog_12_method_2_code
def yX10_has : MethodName := ⟨RX10, "has", "(I)Z"⟩
abbrev cX10_add : ByteArray := prog_12_method_3_code
def yX10_add : MethodName := ⟨RX10, "add", "(IIIII)I"⟩
abbrev cX10_rivals : ByteArray := prog_12_method_4_code
def yX10_rivals : MethodName := ⟨RX10, "rivals", "(III)Z"⟩
abbrev cX10_become : ByteArray := prog_12_method_5_code
def yX10_become : MethodName := ⟨RX10, "become", "(LArcadeRents$Shops;)V"⟩
def RX11 : String := "ArcadeRents"
def TX11 : u_T := fun k => match k with
  | 0 => ("ArcadeRents", "now", "LArcadeRents$Arcade;", true)
  | 1 => ("ArcadeRents", "image", "LArcadeRents$Arcade;", true)
  | 2 => ("ArcadeRents", "hasImage", "Z", false)
  | 3 => ("ArcadeRents", "reader", "LArcadeRents$Reader;", true)
  | 4 => ("ArcadeRents", "sheets", "LArcadeRents$Sheets;", true)
  | 5 => ("ArcadeRents", "crowd", "LArcadeRents$Crowd;", true)
  | 6 => ("ArcadeRents", "calc", "LArcadeRents$Calc;", true)
  | 7 => ("ArcadeRents", "mix", "LArcadeRents$Mix;", true)
  | 8 => ("ArcadeRents", "gone", "[I", true)
  | 9 => ("ArcadeRents", "waiting", "[I", true)
  | _ => ("ArcadeRents", "waits", "I", false)
def tyX11 : Nat → FieldType := fun k => match k with
  | 0 => .object "ArcadeRents$Arcade"
  | 1 => .object "ArcadeRents$Arcade"
  | 2 => .boolean
  | 3 => .object "ArcadeRents$Reader"
  | 4 => .object "ArcadeRents$Sheets"
  | 5 => .object "ArcadeRents$Crowd"
  | 6 => .object "ArcadeRents$Calc"
  | 7 => .object "ArcadeRents$Mix"
  | 8 => .array .int
  | 9 => .array .int
  | _ => .int
abbrev wsX110 : List Cond := u_ws RX11 TX11 11
theorem nmX11 : ∀ a, a < 11 → ∀ b, b < 11 → a ≠ b → (TX11 a).2.1 ≠ (TX11 b).2.1 := by decide +kernel
theorem tyX11_ok : ∀ k, k < 11 → parseFieldDescriptor (TX11 k).2.2.1 = some (tyX11 k) := by decide +kernel
abbrev cX11_init : ByteArray := prog_1_method_1_code
def yX11_init : MethodName := ⟨RX11, "<init>", "()V"⟩
abbrev cX11_feet : ByteArray := prog_1_method_2_code
def yX11_feet : MethodName := ⟨RX11, "feet", "(II)I"⟩
abbrev cX11_lay : ByteArray := prog_1_method_3_code
def yX11_lay : MethodName := ⟨RX11, "lay", "(I)I"⟩
abbrev cX11_door : ByteArray := prog_1_method_4_code
def yX11_door : MethodName := ⟨RX11, "door", "(II)I"⟩
abbrev cX11_people : ByteArray := prog_1_method_5_code
def yX11_people : MethodName := ⟨RX11, "people", "(II)I"⟩
abbrev cX11_shop : ByteArray := prog_1_method_6_code
def yX11_shop : MethodName := ⟨RX11, "shop", "(IIIII)I"⟩
abbrev cX11_isOf : ByteArray := prog_1_method_7_code
def yX11_isOf : MethodName := ⟨RX11, "isOf", "(II)I"⟩
abbrev cX11_move : ByteArray := prog_1_method_8_code
def yX11_move : MethodName := ⟨RX11, "move", "(II)I"⟩
abbrev cX11_months : ByteArray := prog_1_method_9_code
def yX11_months : MethodName := ⟨RX11, "months", "(I)I"⟩
abbrev cX11_rule : ByteArray := prog_1_method_10_code
def yX11_rule : MethodName := ⟨RX11, "rule", "(II)I"⟩
abbrev cX11_stands : ByteArray := prog_1_method_11_code
def yX11_stands : MethodName := ⟨RX11, "stands", "(III)I"⟩
abbrev cX11_past : ByteArray := prog_1_method_12_code
def yX11_past : MethodName := ⟨RX11, "past", "(II)I"⟩
abbrev cX11_take : ByteArray := prog_1_method_13_code
def yX11_take : MethodName := ⟨RX11, "take", "(III)I"⟩
abbrev cX11_withdraw : ByteArray := prog_1_method_14_code
def yX11_withdraw : MethodName := ⟨RX11, "withdraw", "(I)I"⟩
abbrev cX11_line : ByteArray := prog_1_method_15_code
def yX11_line : MethodName := ⟨RX11, "line", "(II)I"⟩
abbrev cX11_takings : ByteArray := prog_1_method_16_code
def yX11_takings : MethodName := ⟨RX11, "takings", "(III)I"⟩
abbrev cX11_beyond : ByteArray := prog_1_method_17_code
def yX11_beyond : MethodName := ⟨RX11, "beyond", "(III)I"⟩
abbrev cX11_feed : ByteArray := prog_1_method_18_code
def yX11_feed : MethodName := ⟨RX11, "feed", "(III)I"⟩
abbrev cX11_trim : ByteArray := prog_1_method_19_code
def yX11_trim : MethodName := ⟨RX11, "trim", "(I)I"⟩
abbrev cX11_lease : ByteArray := prog_1_method_20_code
def yX11_lease : MethodName := ⟨RX11, "lease", "(I)I"⟩
abbrev cX11_rent : ByteArray := prog_1_method_21_code
def yX11_rent : MethodName := ⟨RX11, "rent", "(III)I"⟩
abbrev cX11_rents : ByteArray := prog_1_method_22_code
def yX11_rents : MethodName := ⟨RX11, "rents", "(II)I"⟩
abbrev cX11_charge : ByteArray := prog_1_method_23_code
def yX11_charge : MethodName := ⟨RX11, "charge", "(III)I"⟩
abbrev cX11_fall : ByteArray := prog_1_method_24_code
def yX11_fall : MethodName := ⟨RX11, "fall", "()I"⟩
abbrev cX11_fallen : ByteArray := prog_1_method_25_code
def yX11_fallen : MethodName := ⟨RX11, "fallen", "(I)I"⟩
abbrev cX11_without : ByteArray := prog_1_method_26_code
def yX11_without : MethodName := ⟨RX11, "without", "(I)I"⟩
abbrev cX11_broken : ByteArray := prog_1_method_27_code
def yX11_broken : MethodName := ⟨RX11, "broken", "()I"⟩
abbrev cX11_mix : ByteArray := prog_1_method_28_code
def yX11_mix : MethodName := ⟨RX11, "mix", "(I)I"⟩
abbrev cX11_mixed : ByteArray := prog_1_method_29_code
def yX11_mixed : MethodName := ⟨RX11, "mixed", "(II)I"⟩
abbrev cX11_tell : ByteArray := prog_1_method_30_code
def yX11_tell : MethodName := ⟨RX11, "tell", "(I)I"⟩
abbrev cX11_check : ByteArray := prog_1_method_31_code
def yX11_check : MethodName := ⟨RX11, "check", "()I"⟩
abbrev cX11_keep : ByteArray := prog_1_method_32_code
def yX11_keep : MethodName := ⟨RX11, "keep", "()I"⟩
abbrev cX11_back : ByteArray := prog_1_method_33_code
def yX11_back : MethodName := ⟨RX11, "back", "()I"⟩
abbrev cX11_sheet : ByteArray := prog_1_method_34_code
def yX11_sheet : MethodName := ⟨RX11, "sheet", "(II)I"⟩
abbrev cX11_mark : ByteArray := prog_1_method_35_code
def yX11_mark : MethodName := ⟨RX11, "mark", "(III)I"⟩
abbrev cX11_copy : ByteArray := prog_1_method_36_code
def yX11_copy : MethodName := ⟨RX11, "copy", "(IIIII)I"⟩
abbrev cX11_count : ByteArray := prog_1_method_37_code
def yX11_count : MethodName := ⟨RX11, "count", "(I)I"⟩
abbrev cX11_within : ByteArray := prog_1_method_38_code
def yX11_within : MethodName := ⟨RX11, "within", "(III)Z"⟩
abbrev cX11_isPlace : ByteArray := prog_1_method_39_code
def yX11_isPlace : MethodName := ⟨RX11, "isPlace", "(I)Z"⟩
abbrev cX11_isFeet : ByteArray := prog_1_method_40_code
def yX11_isFeet : MethodName := ⟨RX11, "isFeet", "(I)Z"⟩
abbrev cX11_isPeople : ByteArray := prog_1_method_41_code
def yX11_isPeople : MethodName := ⟨RX11, "isPeople", "(I)Z"⟩
abbrev cX11_isTries : ByteArray := prog_1_method_42_code
def yX11_isTries : MethodName := ⟨RX11, "isTries", "(I)Z"⟩
abbrev cX11_isMonth : ByteArray := prog_1_method_43_code
def yX11_isMonth : MethodName := ⟨RX11, "isMonth", "(I)Z"⟩
abbrev cX11_countIn : ByteArray := prog_1_method_44_code
def yX11_countIn : MethodName := ⟨RX11, "countIn", "()I"⟩
abbrev cX11_rentOf : ByteArray := prog_1_method_45_code
def yX11_rentOf : MethodName := ⟨RX11, "rentOf", "(II)I"⟩
abbrev cX11_rentPart : ByteArray := prog_1_method_46_code
def yX11_rentPart : MethodName := ⟨RX11, "rentPart", "(III)I"⟩
abbrev cX11_letFall : ByteArray := prog_1_method_47_code
def yX11_letFall : MethodName := ⟨RX11, "letFall", "()I"⟩
abbrev cX11_firstToLeave : ByteArray := prog_1_method_48_code
def yX11_firstToLeave : MethodName := ⟨RX11, "firstToLeave", "()I"⟩
abbrev cX11_seek : ByteArray := prog_1_method_49_code
def yX11_seek : MethodName := ⟨RX11, "seek", "(I)Z"⟩
def RX12 : String := "ArcadeRentsModel"
def TX12 : u_T := fun k => match k with
  | 0 => ("ArcadeRentsModel", "now", "[I", true)
  | 1 => ("ArcadeRentsModel", "image", "[I", true)
  | 2 => ("ArcadeRentsModel", "hasImage", "Z", false)
  | 3 => ("ArcadeRentsModel", "tape", "[I", true)
  | 4 => ("ArcadeRentsModel", "taped", "I", false)
  | 5 => ("ArcadeRentsModel", "waits", "[I", true)
  | 6 => ("ArcadeRentsModel", "waiting", "I", false)
  | 7 => ("ArcadeRentsModel", "places", "[I", true)
  | 8 => ("ArcadeRentsModel", "sheets", "[I", true)
  | 9 => ("ArcadeRentsModel", "stand", "[I", true)
  | 10 => ("ArcadeRentsModel", "from", "I", false)
  | 11 => ("ArcadeRentsModel", "to", "I", false)
  | 12 => ("ArcadeRentsModel", "sort", "I", false)
  | 13 => ("ArcadeRentsModel", "isFault", "Z", false)
  | 14 => ("ArcadeRentsModel", "brackets", "I", false)
  | 15 => ("ArcadeRentsModel", "nots", "I", false)
  | 16 => ("ArcadeRentsModel", "code", "[I", true)
  | 17 => ("ArcadeRentsModel", "codes", "I", false)
  | 18 => ("ArcadeRentsModel", "parts", "I", false)
  | 19 => ("ArcadeRentsModel", "pile", "[I", true)
  | 20 => ("ArcadeRentsModel", "leaver", "[I", true)
  | 21 => ("ArcadeRentsModel", "puts", "[I", true)
  | 22 => ("ArcadeRentsModel", "best", "[I", true)
  | 23 => ("ArcadeRentsModel", "bestWorth", "I", false)
  | 24 => ("ArcadeRentsModel", "bestMany", "I", false)
  | 25 => ("ArcadeRentsModel", "triesLeft", "I", false)
  | 26 => ("ArcadeRentsModel", "isSpent", "Z", false)
  | _ => ("ArcadeRentsModel", "carried", "[I", true)
def tyX12 : Nat → FieldType := fun k => match k with
  | 0 => .array .int
  | 1 => .array .int
  | 2 => .boolean
  | 3 => .array .int
  | 4 => .int
  | 5 => .array .int
  | 6 => .int
  | 7 => .array .int
  | 8 => .array .int
  | 9 => .array .int
  | 10 => .int
  | 11 => .int
  | 12 => .int
  | 13 => .boolean
  | 14 => .int
  | 15 => .int
  | 16 => .array .int
  | 17 => .int
  | 18 => .int
  | 19 => .array .int
  | 20 => .array .int
  | 21 => .array .int
  | 22 => .array .int
  | 23 => .int
  | 24 => .int
  | 25 => .int
  | 26 => .boolean
  | _ => .array .int
abbrev wsX120 : List Cond := u_ws RX12 TX12 28
theorem nmX12 : ∀ a, a < 28 → ∀ b, b < 28 → a ≠ b → (TX12 a).2.1 ≠ (TX12 b).2.1 := by decide +kernel
theorem tyX12_ok : ∀ k, k < 28 → parseFieldDescriptor (TX12 k).2.2.1 = some (tyX12 k) := by decide +kernel
abbrev cX12_init : ByteArray := prog_14_method_1_code
def yX12_init : MethodName := ⟨RX12, "<init>", "()V"⟩
abbrev cX12_within : ByteArray := prog_14_method_2_code
def yX12_within : MethodName := ⟨RX12, "within", "(III)Z"⟩
abbrev cX12_isPlace : ByteArray := prog_14_method_3_code
def yX12_isPlace : MethodName := ⟨RX12, "isPlace", "(I)Z"⟩
abbrev cX12_isShop : ByteArray := prog_14_method_4_code
def yX12_isShop : MethodName := ⟨RX12, "isShop", "(I)Z"⟩
abbrev cX12_isPast : ByteArray := prog_14_method_5_code
def yX12_isPast : MethodName := ⟨RX12, "isPast", "(I)Z"⟩
abbrev cX12_of : ByteArray := prog_14_method_6_code
def yX12_of : MethodName := ⟨RX12, "of", "(II)I"⟩
abbrev cX12_feet : ByteArray := prog_14_method_7_code
def yX12_feet : MethodName := ⟨RX12, "feet", "(II)I"⟩
abbrev cX12_lay : ByteArray := prog_14_method_8_code
def yX12_lay : MethodName := ⟨RX12, "lay", "(I)I"⟩
abbrev cX12_door : ByteArray := prog_14_method_9_code
def yX12_door : MethodName := ⟨RX12, "door", "(II)I"⟩
abbrev cX12_people : ByteArray := prog_14_method_10_code
def yX12_people : MethodName := ⟨RX12, "people", "(II)I"⟩
abbrev cX12_shop : ByteArray := prog_14_method_11_code
def yX12_shop : MethodName := ⟨RX12, "shop", "(IIIII)I"⟩
abbrev cX12_isOf : ByteArray := prog_14_method_12_code
def yX12_isOf : MethodName := ⟨RX12, "isOf", "(II)I"⟩
abbrev cX12_placeOf : ByteArray := prog_14_method_13_code
def yX12_placeOf : MethodName := ⟨RX12, "placeOf", "(II)I"⟩
abbrev cX12_findStands : ByteArray := prog_14_method_14_code
def yX12_findStands : MethodName := ⟨RX12, "findStands", "(I)V"⟩
abbrev cX12_shopAt : ByteArray := prog_14_method_15_code
def yX12_shopAt : MethodName := ⟨RX12, "shopAt", "(I)I"⟩
abbrev cX12_moves : ByteArray := prog_14_method_16_code
def yX12_moves : MethodName := ⟨RX12, "moves", "(II)V"⟩
abbrev cX12_move : ByteArray := prog_14_method_17_code
def yX12_move : MethodName := ⟨RX12, "move", "(II)I"⟩
abbrev cX12_months : ByteArray := prog_14_method_18_code
def yX12_months : MethodName := ⟨RX12, "months", "(I)I"⟩
abbrev cX12_rule : ByteArray := prog_14_method_19_code
def yX12_rule : MethodName := ⟨RX12, "rule", "(II)I"⟩
abbrev cX12_pulls : ByteArray := prog_14_method_20_code
def yX12_pulls : MethodName := ⟨RX12, "pulls", "()I"⟩
abbrev cX12_goFrom : ByteArray := prog_14_method_21_code
def yX12_goFrom : MethodName := ⟨RX12, "goFrom", "(III)I"⟩
abbrev cX12_comers : ByteArray := prog_14_method_22_code
def yX12_comers : MethodName := ⟨RX12, "comers", "(I)I"⟩
abbrev cX12_passers : ByteArray := prog_14_method_23_code
def yX12_passers : MethodName := ⟨RX12, "passers", "(I)I"⟩
abbrev cX12_foretold : ByteArray := prog_14_method_24_code
def yX12_foretold : MethodName := ⟨RX12, "foretold", "(I)I"⟩
abbrev cX12_others : ByteArray := prog_14_method_25_code
def yX12_others : MethodName := ⟨RX12, "others", "(II)I"⟩
abbrev cX12_stands : ByteArray := prog_14_method_26_code
def yX12_stands : MethodName := ⟨RX12, "stands", "(III)I"⟩
abbrev cX12_past : ByteArray := prog_14_method_27_code
def yX12_past : MethodName := ⟨RX12, "past", "(II)I"⟩
abbrev cX12_take : ByteArray := prog_14_method_28_code
def yX12_take : MethodName := ⟨RX12, "take", "(III)I"⟩
abbrev cX12_gone : ByteArray := prog_14_method_29_code
def yX12_gone : MethodName := ⟨RX12, "gone", "(I)I"⟩
abbrev cX12_withdraw : ByteArray := prog_14_method_30_code
def yX12_withdraw : MethodName := ⟨RX12, "withdraw", "(I)I"⟩
abbrev cX12_line : ByteArray := prog_14_method_31_code
def yX12_line : MethodName := ⟨RX12, "line", "(II)I"⟩
abbrev cX12_taken : ByteArray := prog_14_method_32_code
def yX12_taken : MethodName := ⟨RX12, "taken", "(III)I"⟩
abbrev cX12_takings : ByteArray := prog_14_method_33_code
def yX12_takings : MethodName := ⟨RX12, "takings", "(III)I"⟩
abbrev cX12_beyond : ByteArray := prog_14_method_34_code
def yX12_beyond : MethodName := ⟨RX12, "beyond", "(III)I"⟩
abbrev cX12_feed : ByteArray := prog_14_method_35_code
def yX12_feed : MethodName := ⟨RX12, "feed", "(III)I"⟩
abbrev cX12_trim : ByteArray := prog_14_method_36_code
def yX12_trim : MethodName := ⟨RX12, "trim", "(I)I"⟩
abbrev cX12_isLetter : ByteArray := prog_14_method_37_code
def yX12_isLetter : MethodName := ⟨RX12, "isLetter", "(I)Z"⟩
abbrev cX12_isDigit : ByteArray := prog_14_method_38_code
def yX12_isDigit : MethodName := ⟨RX12, "isDigit", "(I)Z"⟩
abbrev cX12_next : ByteArray := prog_14_method_39_code
def yX12_next : MethodName := ⟨RX12, "next", "()V"⟩
abbrev cX12_isSign : ByteArray := prog_14_method_40_code
def yX12_isSign : MethodName := ⟨RX12, "isSign", "(I)Z"⟩
abbrev cX12_need : ByteArray := prog_14_method_41_code
def yX12_need : MethodName := ⟨RX12, "need", "(Z)V"⟩
abbrev cX12_word : ByteArray := prog_14_method_42_code
def yX12_word : MethodName := ⟨RX12, "word", "(Ljava/lang/String;)V"⟩
abbrev cX12_put : ByteArray := prog_14_method_43_code
def yX12_put : MethodName := ⟨RX12, "put", "(I)V"⟩
abbrev cX12_signHere : ByteArray := prog_14_method_44_code
def yX12_signHere : MethodName := ⟨RX12, "signHere", "(II)I"⟩
abbrev cX12_part : ByteArray := prog_14_method_45_code
def yX12_part : MethodName := ⟨RX12, "part", "()V"⟩
abbrev cX12_term : ByteArray := prog_14_method_46_code
def yX12_term : MethodName := ⟨RX12, "term", "()V"⟩
abbrev cX12_sum : ByteArray := prog_14_method_47_code
def yX12_sum : MethodName := ⟨RX12, "sum", "()V"⟩
abbrev cX12_test : ByteArray := prog_14_method_48_code
def yX12_test : MethodName := ⟨RX12, "test", "()V"⟩
abbrev cX12_both : ByteArray := prog_14_method_49_code
def yX12_both : MethodName := ⟨RX12, "both", "()V"⟩
abbrev cX12_either : ByteArray := prog_14_method_50_code
def yX12_either : MethodName := ⟨RX12, "either", "()V"⟩
abbrev cX12_lease : ByteArray := prog_14_method_51_code
def yX12_lease : MethodName := ⟨RX12, "lease", "(I)I"⟩
abbrev cX12_named : ByteArray := prog_14_method_52_code
def yX12_named : MethodName := ⟨RX12, "named", "(IIII)I"⟩
abbrev cX12_done : ByteArray := prog_14_method_53_code
def yX12_done : MethodName := ⟨RX12, "done", "(III)I"⟩
abbrev cX12_worked : ByteArray := prog_14_method_54_code
def yX12_worked : MethodName := ⟨RX12, "worked", "(IIII)I"⟩
abbrev cX12_hasLease : ByteArray := prog_14_method_55_code
def yX12_hasLease : MethodName := ⟨RX12, "hasLease", "(I)Z"⟩
abbrev cX12_rentOf : ByteArray := prog_14_method_56_code
def yX12_rentOf : MethodName := ⟨RX12, "rentOf", "(III)I"⟩
abbrev cX12_rent : ByteArray := prog_14_method_57_code
def yX12_rent : MethodName := ⟨RX12, "rent", "(III)I"⟩
abbrev cX12_rents : ByteArray := prog_14_method_58_code
def yX12_rents : MethodName := ⟨RX12, "rents", "(II)I"⟩
abbrev cX12_pays : ByteArray := prog_14_method_59_code
def yX12_pays : MethodName := ⟨RX12, "pays", "(I)Z"⟩
abbrev cX12_charge : ByteArray := prog_14_method_60_code
def yX12_charge : MethodName := ⟨RX12, "charge", "(III)I"⟩
abbrev cX12_findFall : ByteArray := prog_14_method_61_code
def yX12_findFall : MethodName := ⟨RX12, "findFall", "()I"⟩
abbrev cX12_fall : ByteArray := prog_14_method_62_code
def yX12_fall : MethodName := ⟨RX12, "fall", "()I"⟩
abbrev cX12_fallen : ByteArray := prog_14_method_63_code
def yX12_fallen : MethodName := ⟨RX12, "fallen", "(I)I"⟩
abbrev cX12_without : ByteArray := prog_14_method_64_code
def yX12_without : MethodName := ⟨RX12, "without", "(I)I"⟩
abbrev cX12_breaks : ByteArray := prog_14_method_65_code
def yX12_breaks : MethodName := ⟨RX12, "breaks", "(IIII)Z"⟩
abbrev cX12_broken : ByteArray := prog_14_method_66_code
def yX12_broken : MethodName := ⟨RX12, "broken", "()I"⟩
abbrev cX12_mayPut : ByteArray := prog_14_method_67_code
def yX12_mayPut : MethodName := ⟨RX12, "mayPut", "(II)Z"⟩
abbrev cX12_putFrom : ByteArray := prog_14_method_68_code
def yX12_putFrom : MethodName := ⟨RX12, "putFrom", "(III)V"⟩
abbrev cX12_isTaken : ByteArray := prog_14_method_69_code
def yX12_isTaken : MethodName := ⟨RX12, "isTaken", "(I)Z"⟩
abbrev cX12_findMix : ByteArray := prog_14_method_70_code
def yX12_findMix : MethodName := ⟨RX12, "findMix", "(I)I"⟩
abbrev cX12_mix : ByteArray := prog_14_method_71_code
def yX12_mix : MethodName := ⟨RX12, "mix", "(I)I"⟩
abbrev cX12_mixed : ByteArray := prog_14_method_72_code
def yX12_mixed : MethodName := ⟨RX12, "mixed", "(II)I"⟩
abbrev cX12_tell : ByteArray := prog_14_method_73_code
def yX12_tell : MethodName := ⟨RX12, "tell", "(I)I"⟩
abbrev cX12_check : ByteArray := prog_14_method_74_code
def yX12_check : MethodName := ⟨RX12, "check", "()I"⟩
abbrev cX12_keep : ByteArray := prog_14_method_75_code
def yX12_keep : MethodName := ⟨RX12, "keep", "()I"⟩
abbrev cX12_back : ByteArray := prog_14_method_76_code
def yX12_back : MethodName := ⟨RX12, "back", "()I"⟩
abbrev cX12_sheet : ByteArray := prog_14_method_77_code
def yX12_sheet : MethodName := ⟨RX12, "sheet", "(II)I"⟩
abbrev cX12_mark : ByteArray := prog_14_method_78_code
def yX12_mark : MethodName := ⟨RX12, "mark", "(III)I"⟩
abbrev cX12_copy : ByteArray := prog_14_method_79_code
def yX12_copy : MethodName := ⟨RX12, "copy", "(IIIII)I"⟩
abbrev cX12_count : ByteArray := prog_14_method_80_code
def yX12_count : MethodName := ⟨RX12, "count", "(I)I"⟩
def RJ11 : String := "java/lang/Character"
abbrev cJ11_isValidCodePoint_9a6ad : ByteArray := prog_15_method_11_code
def yJ11_isValidCodePoint_9a6ad : MethodName := ⟨RJ11, "isValidCodePoint", "(I)Z"⟩
abbrev cJ11_highSurrogate_5068e : ByteArray := prog_15_method_28_code
def yJ11_highSurrogate_5068e : MethodName := ⟨RJ11, "highSurrogate", "(I)C"⟩
abbrev cJ11_lowSurrogate_5068e : ByteArray := prog_15_method_29_code
def yJ11_lowSurrogate_5068e : MethodName := ⟨RJ11, "lowSurrogate", "(I)C"⟩
def RJ9 : String := "java/lang/Math"
abbrev cJ9_abs_0f7a4 : ByteArray := prog_16_method_59_code
def yJ9_abs_0f7a4 : MethodName := ⟨RJ9, "abs", "(I)I"⟩
abbrev cJ9_max_7cf53 : ByteArray := prog_16_method_65_code
def yJ9_max_7cf53 : MethodName := ⟨RJ9, "max", "(II)I"⟩
abbrev cJ9_min_7cf53 : ByteArray := prog_16_method_69_code
def yJ9_min_7cf53 : MethodName := ⟨RJ9, "min", "(II)I"⟩
def RJ0 : String := "java/lang/String"
abbrev cJ0_length_8abf5 : ByteArray := prog_17_method_54_code
def yJ0_length_8abf5 : MethodName := ⟨RJ0, "length", "()I"⟩
abbrev cJ0_charAt_5068e : ByteArray := prog_17_method_56_code
def yJ0_charAt_5068e : MethodName := ⟨RJ0, "charAt", "(I)C"⟩
abbrev cJ0_indexOf_0f7a4 : ByteArray := prog_17_method_79_code
def yJ0_indexOf_0f7a4 : MethodName := ⟨RJ0, "indexOf", "(I)I"⟩
abbrev cJ0_indexOf_7cf53 : ByteArray := prog_17_method_80_code
def yJ0_indexOf_7cf53 : MethodName := ⟨RJ0, "indexOf", "(II)I"⟩
abbrev cJ0_coder_7d493 : ByteArray := prog_17_method_152_code
def yJ0_coder_7d493 : MethodName := ⟨RJ0, "coder", "()B"⟩
abbrev cJ0_isLatin1_aae02 : ByteArray := prog_17_method_154_code
def yJ0_isLatin1_aae02 : MethodName := ⟨RJ0, "isLatin1", "()Z"⟩
abbrev cJ0_checkIndex_df160 : ByteArray := prog_17_method_155_code
def yJ0_checkIndex_df160 : MethodName := ⟨RJ0, "checkIndex", "(II)V"⟩
abbrev cJ0_checkBoundsBeginEnd_23922 : ByteArray := prog_17_method_158_code
def yJ0_checkBoundsBeginEnd_23922 : MethodName := ⟨RJ0, "checkBoundsBeginEnd", "(III)V"⟩
def RJ1 : String := "java/lang/StringLatin1"
abbrev cJ1_charAt_3b067 : ByteArray := prog_18_method_2_code
def yJ1_charAt_3b067 : MethodName := ⟨RJ1, "charAt", "([BI)C"⟩
abbrev cJ1_canEncode_9a6ad : ByteArray := prog_18_method_4_code
def yJ1_canEncode_9a6ad : MethodName := ⟨RJ1, "canEncode", "(I)Z"⟩
abbrev cJ1_indexOf_4cfef : ByteArray := prog_18_method_22_code
def yJ1_indexOf_4cfef : MethodName := ⟨RJ1, "indexOf", "([BIII)I"⟩
abbrev cJ1_indexOfChar_4cfef : ByteArray := prog_18_method_23_code
def yJ1_indexOfChar_4cfef : MethodName := ⟨RJ1, "indexOfChar", "([BIII)I"⟩
def RJ2 : String := "java/lang/StringUTF16"
abbrev cJ2_getChar_3b067 : ByteArray := prog_19_method_5_code
def yJ2_getChar_3b067 : MethodName := ⟨RJ2, "getChar", "([BI)C"⟩
abbrev cJ2_length_9d52b : ByteArray := prog_19_method_6_code
def yJ2_length_9d52b : MethodName := ⟨RJ2, "length", "([B)I"⟩
abbrev cJ2_indexOf_4cfef : ByteArray := prog_19_method_40_code
def yJ2_indexOf_4cfef : MethodName := ⟨RJ2, "indexOf", "([BIII)I"⟩
abbrev cJ2_indexOfChar_4cfef : ByteArray := prog_19_method_47_code
def yJ2_indexOfChar_4cfef : MethodName := ⟨RJ2, "indexOfChar", "([BIII)I"⟩
abbrev cJ2_indexOfCharUnsafe_4cfef : ByteArray := prog_19_method_48_code
def yJ2_indexOfCharUnsafe_4cfef : MethodName := ⟨RJ2, "indexOfCharUnsafe", "([BIII)I"⟩
abbrev cJ2_indexOfSupplementary_4cfef : ByteArray := prog_19_method_49_code
def yJ2_indexOfSupplementary_4cfef : MethodName := ⟨RJ2, "indexOfSupplementary", "([BIII)I"⟩
abbrev cJ2_charAt_3b067 : ByteArray := prog_19_method_83_code
def yJ2_charAt_3b067 : MethodName := ⟨RJ2, "charAt", "([BI)C"⟩
abbrev cJ2_checkIndex_2214a : ByteArray := prog_19_method_91_code
def yJ2_checkIndex_2214a : MethodName := ⟨RJ2, "checkIndex", "(I[B)V"⟩
abbrev cJ2_checkBoundsBeginEnd_d044e : ByteArray := prog_19_method_93_code
def yJ2_checkBoundsBeginEnd_d044e : MethodName := ⟨RJ2, "checkBoundsBeginEnd", "(II[B)V"⟩
def RJ10 : String := "java/lang/System"
def RJ7 : String := "java/util/Arrays"
abbrev cJ7_fill_53178 : ByteArray := prog_21_method_103_code
def yJ7_fill_53178 : MethodName := ⟨RJ7, "fill", "([II)V"⟩
abbrev cJ7_fill_fb410 : ByteArray := prog_21_method_105_code
def yJ7_fill_fb410 : MethodName := ⟨RJ7, "fill", "([SS)V"⟩
def RJ3 : String := "jdk/internal/util/Preconditions"
abbrev cJ3_checkIndex_8e157 : ByteArray := prog_22_method_11_code
def yJ3_checkIndex_8e157 : MethodName := ⟨RJ3, "checkIndex", "(IILjava/util/function/BiFunction;)I"⟩
abbrev cJ3_checkFromToIndex_8c36e : ByteArray := prog_22_method_12_code
def yJ3_checkFromToIndex_8c36e : MethodName := ⟨RJ3, "checkFromToIndex", "(IIILjava/util/function/BiFunction;)I"⟩
