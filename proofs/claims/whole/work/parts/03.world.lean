/-! the world's layout, its classes, the String constants -/
def vt_lay : List ((Nat × Nat × Nat) ⊕ (Nat × List (Option Nat))) := [.inr (11, [some 1, some 54, none, some 107, some 111, some 116, some 121, some 123, some 166, some 167, none]),
  .inr (0, [some 2, some 3, some 4, some 7, some 15, some 19, some 25, some 53, none, none]),
  .inl (0, 12, 0),
  .inl (0, 2, 0),
  .inr (3, [some 5, some 6, none]),
  .inl (0, 4, 0),
  .inl (0, 4, 0),
  .inr (10, [some 8, some 9, some 10, some 11, some 12, some 13, some 14, none]),
  .inl (0, 12, 0),
  .inl (0, 12, 0),
  .inl (0, 12, 0),
  .inl (0, 12, 0),
  .inl (0, 12, 0),
  .inl (0, 12, 0),
  .inl (0, 12, 0),
  .inr (7, [some 16, some 17, some 18, none]),
  .inl (0, 200, 0),
  .inl (0, 200, 0),
  .inl (0, 200, 0),
  .inr (5, [some 20, some 21, some 22, some 23, some 24, none]),
  .inl (0, 100, 0),
  .inl (0, 100, 0),
  .inl (0, 100, 0),
  .inl (0, 100, 0),
  .inl (0, 100, 0),
  .inr (4, [some 26, some 27, some 40]),
  .inl (3, 12, 0),
  .inl (4, 12, 28),
  .inl (0, 132, 0),
  .inl (0, 132, 0),
  .inl (0, 132, 0),
  .inl (0, 132, 0),
  .inl (0, 132, 0),
  .inl (0, 132, 0),
  .inl (0, 132, 0),
  .inl (0, 132, 0),
  .inl (0, 132, 0),
  .inl (0, 132, 0),
  .inl (0, 132, 0),
  .inl (0, 132, 0),
  .inl (4, 12, 41),
  .inl (0, 3, 0),
  .inl (0, 3, 0),
  .inl (0, 3, 0),
  .inl (0, 3, 0),
  .inl (0, 3, 0),
  .inl (0, 3, 0),
  .inl (0, 3, 0),
  .inl (0, 3, 0),
  .inl (0, 3, 0),
  .inl (0, 3, 0),
  .inl (0, 3, 0),
  .inl (0, 3, 0),
  .inl (0, 12, 0),
  .inr (0, [some 55, some 56, some 57, some 60, some 68, some 72, some 78, some 106, none, none]),
  .inl (0, 12, 0),
  .inl (0, 2, 0),
  .inr (3, [some 58, some 59, none]),
  .inl (0, 4, 0),
  .inl (0, 4, 0),
  .inr (10, [some 61, some 62, some 63, some 64, some 65, some 66, some 67, none]),
  .inl (0, 12, 0),
  .inl (0, 12, 0),
  .inl (0, 12, 0),
  .inl (0, 12, 0),
  .inl (0, 12, 0),
  .inl (0, 12, 0),
  .inl (0, 12, 0),
  .inr (7, [some 69, some 70, some 71, none]),
  .inl (0, 200, 0),
  .inl (0, 200, 0),
  .inl (0, 200, 0),
  .inr (5, [some 73, some 74, some 75, some 76, some 77, none]),
  .inl (0, 100, 0),
  .inl (0, 100, 0),
  .inl (0, 100, 0),
  .inl (0, 100, 0),
  .inl (0, 100, 0),
  .inr (4, [some 79, some 80, some 93]),
  .inl (3, 12, 0),
  .inl (4, 12, 81),
  .inl (0, 132, 0),
  .inl (0, 132, 0),
  .inl (0, 132, 0),
  .inl (0, 132, 0),
  .inl (0, 132, 0),
  .inl (0, 132, 0),
  .inl (0, 132, 0),
  .inl (0, 132, 0),
  .inl (0, 132, 0),
  .inl (0, 132, 0),
  .inl (0, 132, 0),
  .inl (0, 132, 0),
  .inl (4, 12, 94),
  .inl (0, 3, 0),
  .inl (0, 3, 0),
  .inl (0, 3, 0),
  .inl (0, 3, 0),
  .inl (0, 3, 0),
  .inl (0, 3, 0),
  .inl (0, 3, 0),
  .inl (0, 3, 0),
  .inl (0, 3, 0),
  .inl (0, 3, 0),
  .inl (0, 3, 0),
  .inl (0, 3, 0),
  .inl (0, 12, 0),
  .inr (8, [none, some 108, some 109, none, some 110, none, none, none, none, none]),
  .inl (0, 132, 0),
  .inl (0, 3, 0),
  .inl (1, 132, 0),
  .inr (9, [some 112, some 115]),
  .inl (5, 2, 113),
  .inl (2, 16, 0),
  .inl (2, 16, 0),
  .inl (0, 2, 0),
  .inr (2, [some 1, none, none, some 117, some 118, some 119, some 120]),
  .inl (0, 12, 0),
  .inl (0, 12, 0),
  .inl (0, 12, 0),
  .inl (0, 12, 0),
  .inr (1, [some 122, none]),
  .inl (0, 132, 0),
  .inr (6, [some 124, none, none, some 125, some 126, some 139, some 152, none, none]),
  .inl (0, 12, 0),
  .inl (0, 12, 0),
  .inl (4, 12, 127),
  .inl (0, 12, 0),
  .inl (0, 12, 0),
  .inl (0, 12, 0),
  .inl (0, 12, 0),
  .inl (0, 12, 0),
  .inl (0, 12, 0),
  .inl (0, 12, 0),
  .inl (0, 12, 0),
  .inl (0, 12, 0),
  .inl (0, 12, 0),
  .inl (0, 12, 0),
  .inl (0, 12, 0),
  .inl (4, 12, 140),
  .inl (0, 12, 0),
  .inl (0, 12, 0),
  .inl (0, 12, 0),
  .inl (0, 12, 0),
  .inl (0, 12, 0),
  .inl (0, 12, 0),
  .inl (0, 12, 0),
  .inl (0, 12, 0),
  .inl (0, 12, 0),
  .inl (0, 12, 0),
  .inl (0, 12, 0),
  .inl (0, 12, 0),
  .inl (4, 13, 153),
  .inl (0, 12, 0),
  .inl (0, 12, 0),
  .inl (0, 12, 0),
  .inl (0, 12, 0),
  .inl (0, 12, 0),
  .inl (0, 12, 0),
  .inl (0, 12, 0),
  .inl (0, 12, 0),
  .inl (0, 12, 0),
  .inl (0, 12, 0),
  .inl (0, 12, 0),
  .inl (0, 12, 0),
  .inl (0, 12, 0),
  .inl (0, 12, 0),
  .inl (0, 24, 0),
  .inr (12, [some 169, some 170, none, some 171, none, some 172, none, some 173, some 174, some 175, none, none, none, none, none, none, some 176, none, none, some 177, some 178, some 179, some 180, none, none, none, none, some 181]),
  .inl (0, 2220, 0),
  .inl (0, 2220, 0),
  .inl (0, 132, 0),
  .inl (0, 24, 0),
  .inl (0, 2, 0),
  .inl (0, 32, 0),
  .inl (0, 12, 0),
  .inl (0, 140, 0),
  .inl (0, 140, 0),
  .inl (0, 12, 0),
  .inl (0, 12, 0),
  .inl (0, 12, 0),
  .inl (0, 16, 0)]
abbrev vt_cls : List vw_C := [(RX0, TX0, 10), (RX1, TX1, 2), (RX2, TX2, 7), (RX3, TX3, 3), (RX4, TX4, 3), (RX5, TX5, 6), (RX6, TX6, 9), (RX7, TX7, 4), (RX8, TX8, 10), (RX9, TX9, 2), (RX10, TX10, 8), (RX11, TX11, 11), (RX12, TX12, 28)]
def vt_strs : List (String × Nat × String × List Int32) := [("ArcadeRents$Reader", 78, "tfaovknmxc", [116, 102, 97, 111, 118, 107, 110, 109, 120, 99]), ("ArcadeRents$Reader", 85, "base", [98, 97, 115, 101]), ("ArcadeRents$Reader", 91, "turn", [116, 117, 114, 110]), ("ArcadeRents$Reader", 93, "leave", [108, 101, 97, 118, 101]), ("ArcadeRentsModel", 218, "base", [98, 97, 115, 101]), ("ArcadeRentsModel", 182, "tfaovknmxc", [116, 102, 97, 111, 118, 107, 110, 109, 120, 99]), ("ArcadeRentsModel", 171, "|&<=>+-*/!", [124, 38, 60, 61, 62, 43, 45, 42, 47, 33]), ("ArcadeRentsModel", 225, "turn", [116, 117, 114, 110]), ("ArcadeRentsModel", 227, "leave", [108, 101, 97, 118, 101])]
/-! THE WORLD: a fixed row of cells; what they hold is a function of cell and place -/
abbrev vt_Sg : Type := Nat → Nat → Int32
abbrev vt_GT : Type := Launch × (Nat → Nat) × (Nat → ClassId) × va_G × (Nat → Nat) × (Nat → Nat)
abbrev vt_LE : Type := (Nat × Nat × Nat) ⊕ (Nat × List (Option Nat))
def vt_v (ad : Nat → Nat) (f : Nat → Int32) (j : Nat) (o : Option Nat) : Value := match o with
  | none => Value.int (f j)
  | some r => Value.ref (ad r)
def vt_fl (ad : Nat → Nat) (f : Nat → Int32) (fl : List (Option Nat)) : List Value := fl.mapIdx (vt_v ad f)
def vt_E (g : vt_GT) (σ : vt_Sg) (k : Nat) (e : vt_LE) : va_E := match e with
  | .inl (kd, n, r0) => .inl (g.2.2.1 kd, n, if kd < 4 then .inl (σ k) else .inr (.inr (.inr (.inr (fun j => if j < n then some (g.2.1 (r0 + j)) else none)))))
  | .inr (ci, fl) => .inr (ci, vt_fl g.2.1 (σ k) fl)
def vt_W (g : vt_GT) (σ : vt_Sg) : va_W := vt_lay.mapIdx (fun k e => (g.2.1 k, vt_E g σ k e))
/-- one cell's contents become f -/
def su (σ : vt_Sg) (k : Nat) (f : Nat → Int32) : vt_Sg := fun a => if a = k then f else σ a
theorem su_same {σ : vt_Sg} {k : Nat} {f : Nat → Int32} : su σ k f k = f := if_pos rfl
theorem su_ne {σ : vt_Sg} {k a : Nat} {f : Nat → Int32} (h : a ≠ k) : su σ k f a = σ a := if_neg h
theorem vt_W_at {g : vt_GT} {σ : vt_Sg} {k : Nat} {e : vt_LE} (h : vt_lay[k]? = some e) : (vt_W g σ)[k]? = some (g.2.1 k, vt_E g σ k e) := by
  unfold vt_W
  rw [List.getElem?_mapIdx, h]
  rfl
theorem vt_E_ne {g : vt_GT} {σ : vt_Sg} {k j : Nat} {f : Nat → Int32} (h : j ≠ k) (e : vt_LE) : vt_E g (su σ k f) j e = vt_E g σ j e := by
  unfold vt_E
  rw [su_ne h]
theorem vt_W_set {g : vt_GT} {σ : vt_Sg} {k : Nat} {e : vt_LE} {f : Nat → Int32} {x : va_E} (h : vt_lay[k]? = some e) (hx : vt_E g (su σ k f) k e = x) : (vt_W g σ).set k (g.2.1 k, x) = vt_W g (su σ k f) := by
  subst hx
  have hl : k < vt_lay.length := (List.getElem?_eq_some_iff.mp h).1
  apply List.ext_getElem?
  intro i
  by_cases hi : i = k
  · subst hi
    rw [List.getElem?_set_self (by unfold vt_W; rw [List.length_mapIdx]; exact hl), vt_W_at h]
  · rw [List.getElem?_set_ne (Ne.symm hi)]
    unfold vt_W
    rw [List.getElem?_mapIdx, List.getElem?_mapIdx]
    cases vt_lay[i]? with
    | none => rfl
    | some e' => simp only [Option.map_some, vt_E_ne hi]
theorem vt_fl_at {ad : Nat → Nat} {f : Nat → Int32} {fl : List (Option Nat)} {j : Nat} {o : Option Nat} (h : fl[j]? = some o) : (vt_fl ad f fl)[j]? = some (vt_v ad f j o) := by
  unfold vt_fl
  rw [List.getElem?_mapIdx, h]
  rfl
theorem vt_fl_set {ad : Nat → Nat} {f : Nat → Int32} {fl : List (Option Nat)} {j : Nat} {v : Int32} (h : fl[j]? = some none) : (vt_fl ad f fl).set j (.int v) = vt_fl ad (upd f j v) fl := by
  have hl : j < fl.length := (List.getElem?_eq_some_iff.mp h).1
  apply List.ext_getElem?
  intro i
  by_cases hi : i = j
  · subst hi
    rw [List.getElem?_set_self (by unfold vt_fl; rw [List.length_mapIdx]; exact hl), vt_fl_at h]
    simp [upd, vt_v]
  · rw [List.getElem?_set_ne (Ne.symm hi)]
    unfold vt_fl
    rw [List.getElem?_mapIdx, List.getElem?_mapIdx]
    cases fl[i]? with
    | none => rfl
    | some o => cases o <;> simp [upd, vt_v, hi]
/-! what holds of a state at a method's entry -/
def vt_tys (g : vt_GT) : List (ClassId × FieldType) := [(g.2.2.1 0, .int), (g.2.2.1 1, .byte), (g.2.2.1 2, .short), (g.2.2.1 3, .boolean), (g.2.2.1 4, .array .int), (g.2.2.1 5, .array .short)]
def vt_A (g : vt_GT) : Nat → Prop := fun q => ∃ k, k < vt_lay.length ∧ q = g.2.1 k
def vt_P (g : vt_GT) (σ : vt_Sg) (H : Heap) : Prop := va_P g.2.2.2.1 vt_cls (vt_W g σ) H
/-- the String constants: class, entry, text, bytes -/
def vt_str (g : vt_GT) (A : Nat → Prop) (U : State) (H : Heap) : Prop := ∀ (i : Nat) (q : String × Nat × String × List Int32), vt_strs[i]? = some q →
  va_O "java/lang/String" (g.2.2.2.2.1 i) A U H ∧ va_OF "java/lang/String" "coder" "B" (.int 0) (g.2.2.2.2.1 i) A U H ∧ va_OF "java/lang/String" "value" "[B" (.ref (g.2.2.2.2.2 i)) (g.2.2.2.2.1 i) A U H ∧ va_T .byte (g.2.2.2.2.2 i) q.2.2.2.length (fun j => .int (q.2.2.2.getD j 0)) A U H
def vt_stR (g : vt_GT) (U : State) : Prop := ∀ (i : Nat) (q : String × Nat × String × List Int32), vt_strs[i]? = some q → vk_R q.1 q.2.1 q.2.2.1 (g.2.2.2.2.1 i) U
def vt_G (g : vt_GT) (U : State) : Prop :=
  va_K g.2.2.2.1 vt_cls (vt_tys g) U ∧ (∀ i j, i < vt_lay.length → j < vt_lay.length → g.2.1 i = g.2.1 j → i = j) ∧ vt_str g (vt_A g) U U.heap ∧ vt_stR g U ∧ va_Z "java/lang/String" "COMPACT_STRINGS" "Z" (.int 1) (vt_A g) U U.heap ∧ va_Zq "jdk/internal/util/Preconditions" "SIOOBE_FORMATTER" "Ljava/util/function/BiFunction;" (vt_A g) U U.heap
theorem vt_D {g : vt_GT} (h : ∀ i j, i < vt_lay.length → j < vt_lay.length → g.2.1 i = g.2.1 j → i = j) (σ : vt_Sg) : va_D (vt_A g) (vt_W g σ) := by
  have key : ∀ (i : Nat) (x : Nat × va_E), (vt_W g σ)[i]? = some x → i < vt_lay.length ∧ x.1 = g.2.1 i := by
    intro i x hx
    unfold vt_W at hx
    rw [List.getElem?_mapIdx] at hx
    cases hl : vt_lay[i]? with
    | none => rw [hl] at hx; cases hx
    | some e =>
      rw [hl] at hx
      cases hx
      exact ⟨(List.getElem?_eq_some_iff.mp hl).1, rfl⟩
  refine ⟨fun i j x y hi hj hxy => ?_, fun k x hx => ?_⟩
  · obtain ⟨a1, a2⟩ := key i x hi
    obtain ⟨b1, b2⟩ := key j y hj
    exact h i j a1 b1 (by rw [← a2, ← b2]; exact hxy)
  · obtain ⟨a1, a2⟩ := key k x hx
    exact ⟨k, a1, a2⟩
theorem vt_str.moved {g : vt_GT} {A : Nat → Prop} {u U : State} {H : Heap} (hvm : u.vm.Alike U.vm) (h : vt_str g A u H) : vt_str g A U H := fun i q hi =>
  ⟨va_O.moved hvm (h i q hi).1, va_OF.moved hvm (h i q hi).2.1, va_OF.moved hvm (h i q hi).2.2.1, va_T.moved hvm (h i q hi).2.2.2⟩
theorem vt_str.kept {g : vt_GT} {A : Nat → Prop} {U : State} {H H1 : Heap} (h : vt_str g A U H) (hq : ∀ a : Nat, a < H.size → ¬ A a → H1[a]? = H[a]?) : vt_str g A U H1 := fun i q hi =>
  ⟨(h i q hi).1.kept hq, (h i q hi).2.1.kept hq, (h i q hi).2.2.1.kept hq, (h i q hi).2.2.2.kept hq⟩
theorem vt_G.move {g : vt_GT} {s U : State} {H : Heap} {locs : List Loc} (h : vt_G g s) (hW : s.WarmedH U.vm) (hS : va_S (vt_A g) s.heap H locs) (hU : U.heap = H) : vt_G g U := by
  obtain ⟨h1, h2, h3, h4, h5, h6⟩ := h
  subst hU
  exact ⟨va_K.moved hW.alike h1, h2, (h3.moved hW.alike).kept hS.2.1, fun i x hi => vk_R.warm hW (h4 i x hi), (va_Z.moved hW.alike h5).kept hS.2.1, (va_Zq.moved hW.alike h6).kept hS.2.1⟩
theorem vt_G.same {g : vt_GT} {s U : State} (h : vt_G g s) (hv : U.vm = s.vm) (hh : U.heap = s.heap) : vt_G g U := by
  obtain ⟨h1, h2, h3, h4, h5, h6⟩ := h
  have ha : s.vm.Alike U.vm := by rw [hv]; exact Vm.Alike.refl _
  exact ⟨va_K.moved ha h1, h2, by rw [hh]; exact h3.moved ha, fun i x hi => vk_R.same hv (h4 i x hi), by rw [hh]; exact va_Z.moved ha h5, by rw [hh]; exact va_Zq.moved ha h6⟩
