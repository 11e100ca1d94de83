/-! THE TIE between the component's cells and the reference's row of numbers -/
/-- the sum of f below n -/
def sm : Nat → (Nat → Int32) → Int32
  | 0, _ => 0
  | n + 1, f => sm n f + f n
def opN (o : Option Nat) : Int32 := match o with
  | none => -1000000005
  | some p => nI p
def opM (o : Option Nat) : Int32 := match o with
  | none => -1
  | some p => nI p
def opC (o : Option Nat) : Nat := match o with
  | none => 0
  | some p => p + 1
/-- where shop s stands in month m by the first k moves -/
def plc (ms mt : Nat → Nat) (mp : Nat → Option Nat) (m s : Nat) : Nat → Option Nat
  | 0 => none
  | k + 1 => if ms k = s ∧ mt k ≤ m then mp k else plc ms mt mp m s k
def namesB : List Int32 := [116, 102, 97, 111, 118, 107, 110, 109, 120, 99]
def signsB : List Int32 := [124, 38, 60, 61, 62, 43, 45, 42, 47, 33]
/-- a step of a lease: a number, 0 less a name, 0 less a sign -/
def isLf (v : Int32) : Bool := (decide (¬ v < 0) && decide (v ≤ 99999)) || namesB.any (fun b => decide (v = -b))
def isSg (v : Int32) : Bool := signsB.any (fun b => decide (v = -b))
/-- the reference's number for a step -/
def tr (v : Int32) : Int32 := if ¬ v < 0 then v else if namesB.any (fun b => decide (v = -b)) then 100000 + ixF (-v) namesB 0 else 200000 + ixF (-v) signsB 0
/-- how high the pile is behind the steps -/
def dpt : List Int32 → Nat → Option Nat
  | [], d => some d
  | v :: l, d => if isLf v then dpt l (d + 1) else if v = -33 then (if 1 ≤ d then dpt l d else none) else if isSg v then (if 2 ≤ d then dpt l (d - 1) else none) else none
def wfp (l : List Int32) : Prop := dpt l 0 = some 1
/-- a lease's steps and ends (component), its code (reference) -/
def LC (st en cd : Nat → Int32) : Prop := ∃ c0 c1 c2 : List Int32, c0.length + c1.length + c2.length ≤ 132 ∧ en 0 = nI c0.length ∧ en 1 = nI (c0.length + c1.length) ∧ en 2 = nI (c0.length + c1.length + c2.length) ∧
  (∀ j, j < c0.length + c1.length + c2.length → st j = (c0 ++ (c1 ++ c2)).getD j 0) ∧
  (∀ j, j < c0.length + c1.length + c2.length + 3 → cd j = (c0.map tr ++ 300000 :: (c1.map tr ++ 300000 :: (c2.map tr ++ [300000]))).getD j 0) ∧ wfp c0 ∧ wfp c1 ∧ wfp c2
def A_num (t nd ns nm nl lv : Nat) (o9 o8 d2 s7 m3 l5 : Int32) (n : Nat → Int32) : Prop :=
  (t ≤ 120 ∧ nd ≤ 4 ∧ ns ≤ 12 ∧ nm ≤ 200 ∧ nl ≤ 100 ∧ lv ≤ 12) ∧ (o9 = nI t ∧ o8 = nI lv ∧ d2 = nI nd ∧ s7 = nI ns ∧ m3 = nI nm ∧ l5 = nI nl) ∧ (n 0 = nI t ∧ n 1 = nI nd ∧ n 2 = nI ns ∧ n 3 = nI nm ∧ n 4 = nI nl ∧ n 7 = nI lv)
def A_feet (f n : Nat → Int32) : Prop := ∀ p, p < 12 → n (10 + p) = f p ∧ ∃ v, 10 ≤ v ∧ v ≤ 999 ∧ f p = nI v
def A_rules (r n : Nat → Int32) : Prop := n 5 = r 0 ∧ n 6 = r 1
def A_doors (nd : Nat) (dp dq n : Nat → Int32) : Prop := ∀ d, d < nd → n (22 + 2 * d) = dp d ∧ n (23 + 2 * d) = dq d
def A_shops (ns : Nat) (k so p l ne sp a n : Nat → Int32) : Prop := ∀ s, s < ns → n (30 + 8 * s) = k s ∧ n (31 + 8 * s) = so s ∧ n (32 + 8 * s) = p s ∧ n (33 + 8 * s) = sp s ∧ n (34 + 8 * s) = l s ∧ n (35 + 8 * s) = ne s ∧ n (36 + 8 * s) = a s
def A_mv (t ns nm : Nat) (m1 m2 m3 n : Nat → Int32) (ms mt : Nat → Nat) (mp : Nat → Option Nat) : Prop :=
  (∀ k, k < nm → m1 k = nI (ms k) ∧ m2 k = nI (mt k) ∧ m3 k = opN (mp k) ∧ n (140 + k) = nI (opC (mp k) + 13 * ms k + 156 * mt k) ∧ ms k < ns ∧ mt k ≤ t ∧ ∀ p, mp k = some p → p < 12) ∧ (∀ k, k + 1 < nm → mt k ≤ mt (k + 1)) ∧ (∀ m s s' p, plc ms mt mp m s nm = some p → plc ms mt mp m s' nm = some p → s = s')
def A_moves (t ns nm : Nat) (m1 m2 m3 n : Nat → Int32) : Prop := ∃ (ms mt : Nat → Nat) (mp : Nat → Option Nat), A_mv t ns nm m1 m2 m3 n ms mt mp
def A_ln (nl : Nat) (l1 l2 l3 l4 l5 n : Nat → Int32) (ls lm lt : Nat → Nat) (lw : Nat → Option Nat) : Prop :=
  ∀ l, l < nl → l1 l = nI (ls l) ∧ l2 l = nI (lm l) ∧ l4 l = nI (lt l) ∧ l5 l = opN (lw l) ∧ n (340 + 2 * l) = l3 l ∧ n (341 + 2 * l) = nI (ls l + 12 * lm l + 1452 * lt l + 175692 * opC (lw l)) ∧ ls l < 12 ∧ lm l ≤ 120 ∧ lt l ≤ 120 ∧ ∀ w, lw l = some w → w ≤ 120
def A_lines (nl : Nat) (l1 l2 l3 l4 l5 n : Nat → Int32) : Prop := ∃ (ls lm lt : Nat → Nat) (lw : Nat → Option Nat), A_ln nl l1 l2 l3 l4 l5 n ls lm lt lw
def A_leases (ns : Nat) (hd : Nat → Int32) (st en : Nat → Nat → Int32) (n : Nat → Int32) : Prop :=
  (∀ s, s < 12 → ns ≤ s → hd s = 0) ∧ ∀ s, s < ns → (hd s = 0 ∧ n (37 + 8 * s) = 0) ∨ (hd s = 1 ∧ (∃ q, 0 < q ∧ q ≤ 132 ∧ n (37 + 8 * s) = nI q) ∧ LC (st s) (en s) (fun j => n (540 + 140 * s + j)))
def A_fall (lv : Nat) (lf n : Nat → Int32) : Prop := ∀ i, i < lv → n (126 + i) = lf i
/-- the component's arcade x (its cells from its object on), the reference's row n -/
def RelN (t nd ns nm nl lv : Nat) (x : Nat → Nat → Int32) (n : Nat → Int32) : Prop :=
  A_num t nd ns nm nl lv (x 0 9) (x 0 8) (x 3 2) (x 6 7) (x 14 3) (x 18 5) n ∧ A_feet (x 1) n ∧ A_rules (x 2) n ∧ A_doors nd (x 4) (x 5) n ∧ A_shops ns (x 7) (x 8) (x 9) (x 10) (x 11) (x 12) (x 13) n ∧ A_moves t ns nm (x 15) (x 16) (x 17) n ∧ A_lines nl (x 19) (x 20) (x 21) (x 22) (x 23) n ∧ A_leases ns (x 25) (fun s => x (27 + s)) (fun s => x (40 + s)) n ∧ A_fall lv (x 52) n
def RelA (x : Nat → Nat → Int32) (n : Nat → Int32) : Prop := ∃ t nd ns nm nl lv : Nat, RelN t nd ns nm nl lv x n
def I_img (hx hm : Int32) (x : Nat → Nat → Int32) (n : Nat → Int32) : Prop := (hx = 0 ∧ hm = 0) ∨ (hx = 1 ∧ hm = 1 ∧ RelA x n)
def I_tape (zx zm : Int32) (b c : Nat → Int32) : Prop := ∃ n : Nat, n ≤ 132 ∧ zx = nI n ∧ zm = nI n ∧ ∀ i, i < n → ∃ v : Nat, v < 256 ∧ c i = nI v ∧ b i = (nI v).toInt8.toInt32
def I_wait (zx zm : Int32) (b c : Nat → Int32) : Prop := ∃ w : Nat, w ≤ 24 ∧ zx = nI w ∧ zm = nI w ∧ ∀ i, i < w → b i = c i
def I_sh1 (zx zm : Int32) (r c : Nat → Int32) : Prop := ((zx = -1 ∧ zm = -1) ∨ ∃ n : Nat, n ≤ 16 ∧ zx = nI n ∧ zm = nI n) ∧ ∀ j, j < 16 → r j = c j ∧ fits .short (.int (r j)) = true
def I_sheet (zx zm r0 r1 c : Nat → Int32) : Prop := I_sh1 (zx 0) (zm 0) r0 c ∧ I_sh1 (zx 1) (zm 1) r1 (fun j => c (16 + j))
def Inv (σ : vt_Sg) : Prop := RelA (fun k => σ (1 + k)) (σ 169) ∧ I_img (σ 0 2) (σ 168 2) (fun k => σ (54 + k)) (σ 170) ∧ I_tape (σ 107 0) (σ 168 4) (σ 110) (σ 171) ∧ I_wait (σ 0 10) (σ 168 6) (σ 167) (σ 172) ∧ I_sheet (σ 115) (σ 173) (σ 113) (σ 114) (σ 174)
/-! each group looks at its own places of the row alone -/
theorem A_num.fr {t nd ns nm nl lv : Nat} {a b c d e f : Int32} {n n' : Nat → Int32} (h : A_num t nd ns nm nl lv a b c d e f n) (hn : ∀ j, j < 5 ∨ j = 7 → n' j = n j) : A_num t nd ns nm nl lv a b c d e f n' := by
  obtain ⟨h1, h2, h3⟩ := h
  refine ⟨h1, h2, ?_⟩
  rw [hn 0 (by omega), hn 1 (by omega), hn 2 (by omega), hn 3 (by omega), hn 4 (by omega), hn 7 (by omega)]
  exact h3
theorem A_feet.fr {f n n' : Nat → Int32} (h : A_feet f n) (hn : ∀ j, 10 ≤ j → j < 22 → n' j = n j) : A_feet f n' := fun p hp => by
  rw [hn (10 + p) (by omega) (by omega)]
  exact h p hp
theorem A_rules.fr {f n n' : Nat → Int32} (h : A_rules f n) (hn : ∀ j, 5 ≤ j → j < 7 → n' j = n j) : A_rules f n' := by
  unfold A_rules
  rw [hn 5 (by omega) (by omega), hn 6 (by omega) (by omega)]
  exact h
theorem A_doors.fr {nd : Nat} {dp dq n n' : Nat → Int32} (h : A_doors nd dp dq n) (hd : nd ≤ 4) (hn : ∀ j, 22 ≤ j → j < 30 → n' j = n j) : A_doors nd dp dq n' := fun d hdd => by
  rw [hn (22 + 2 * d) (by omega) (by omega), hn (23 + 2 * d) (by omega) (by omega)]
  exact h d hdd
theorem A_shops.fr {ns : Nat} {k so p l ne sp a n n' : Nat → Int32} (h : A_shops ns k so p l ne sp a n) (hs : ns ≤ 12) (hn : ∀ j, 30 ≤ j → j < 126 → n' j = n j) : A_shops ns k so p l ne sp a n' := fun s hss => by
  rw [hn (30 + 8 * s) (by omega) (by omega), hn (31 + 8 * s) (by omega) (by omega), hn (32 + 8 * s) (by omega) (by omega), hn (33 + 8 * s) (by omega) (by omega), hn (34 + 8 * s) (by omega) (by omega), hn (35 + 8 * s) (by omega) (by omega), hn (36 + 8 * s) (by omega) (by omega)]
  exact h s hss
theorem A_moves.fr {t ns nm : Nat} {m1 m2 m3 n n' : Nat → Int32} (h : A_moves t ns nm m1 m2 m3 n) (hm : nm ≤ 200) (hn : ∀ j, 140 ≤ j → j < 340 → n' j = n j) : A_moves t ns nm m1 m2 m3 n' := by
  obtain ⟨ms, mt, mp, h1, h2, h3⟩ := h
  refine ⟨ms, mt, mp, fun k hk => ?_, h2, h3⟩
  rw [hn (140 + k) (by omega) (by omega)]
  exact h1 k hk
theorem A_moves.up {t t' ns ns' nm : Nat} {m1 m2 m3 n : Nat → Int32} (h : A_moves t ns nm m1 m2 m3 n) (ht : t ≤ t') (hs : ns ≤ ns') : A_moves t' ns' nm m1 m2 m3 n := by
  obtain ⟨ms, mt, mp, h1, h2, h3⟩ := h
  refine ⟨ms, mt, mp, fun k hk => ?_, h2, h3⟩
  obtain ⟨a1, a2, a3, a4, a5, a6, a7⟩ := h1 k hk
  exact ⟨a1, a2, a3, a4, by omega, by omega, a7⟩
theorem A_lines.fr {nl : Nat} {l1 l2 l3 l4 l5 n n' : Nat → Int32} (h : A_lines nl l1 l2 l3 l4 l5 n) (hm : nl ≤ 100) (hn : ∀ j, 340 ≤ j → j < 540 → n' j = n j) : A_lines nl l1 l2 l3 l4 l5 n' := by
  obtain ⟨ls, lm, lt, lw, h1⟩ := h
  refine ⟨ls, lm, lt, lw, fun l hl => ?_⟩
  rw [hn (340 + 2 * l) (by omega) (by omega), hn (341 + 2 * l) (by omega) (by omega)]
  exact h1 l hl
theorem LC.fr {st en cd cd' : Nat → Int32} (h : LC st en cd) (hc : ∀ j, j < 135 → cd' j = cd j) : LC st en cd' := by
  obtain ⟨c0, c1, c2, h0, h1, h2, h3, h4, h5, h6⟩ := h
  exact ⟨c0, c1, c2, h0, h1, h2, h3, h4, fun j hj => by rw [hc j (by omega)]; exact h5 j hj, h6⟩
theorem A_leases.fr {ns : Nat} {hd : Nat → Int32} {st en : Nat → Nat → Int32} {n n' : Nat → Int32} (h : A_leases ns hd st en n) (hs : ns ≤ 12) (hn : ∀ j, 30 ≤ j → j < 126 → n' j = n j) (hn2 : ∀ j, 540 ≤ j → j < 2220 → n' j = n j) : A_leases ns hd st en n' := by
  refine ⟨h.1, fun s hss => ?_⟩
  rw [hn (37 + 8 * s) (by omega) (by omega)]
  rcases h.2 s hss with h1 | ⟨h1, h2, h3⟩
  · exact Or.inl h1
  · exact Or.inr ⟨h1, h2, h3.fr (fun j hj => hn2 _ (by omega) (by omega))⟩
theorem A_fall.fr {lv : Nat} {lf n n' : Nat → Int32} (h : A_fall lv lf n) (hl : lv ≤ 12) (hn : ∀ j, 126 ≤ j → j < 138 → n' j = n j) : A_fall lv lf n' := fun i hi => by
  rw [hn (126 + i) (by omega) (by omega)]
  exact h i hi
theorem A_leases.cg {ns : Nat} {hd : Nat → Int32} {st en st' en' : Nat → Nat → Int32} {n : Nat → Int32} (h : A_leases ns hd st en n) (hs : ns ≤ 12) (h1 : ∀ s, s < 12 → st' s = st s) (h2 : ∀ s, s < 12 → en' s = en s) : A_leases ns hd st' en' n := by
  refine ⟨h.1, fun s hss => ?_⟩
  rw [h1 s (by omega), h2 s (by omega)]
  exact h.2 s hss
theorem RelA.cg {x x' : Nat → Nat → Int32} {n : Nat → Int32} (h : RelA x n) (hx : ∀ k, k < 53 → x' k = x k) : RelA x' n := by
  obtain ⟨t, nd, ns, nm, nl, lv, h1, h2, h3, h4, h5, h6, h7, h8, h9⟩ := h
  refine ⟨t, nd, ns, nm, nl, lv, ?_⟩
  unfold RelN
  rw [hx 0 (by omega), hx 1 (by omega), hx 2 (by omega), hx 3 (by omega), hx 4 (by omega), hx 5 (by omega), hx 6 (by omega), hx 7 (by omega), hx 8 (by omega), hx 9 (by omega), hx 10 (by omega), hx 11 (by omega), hx 12 (by omega), hx 13 (by omega), hx 14 (by omega), hx 15 (by omega), hx 16 (by omega), hx 17 (by omega), hx 18 (by omega), hx 19 (by omega), hx 20 (by omega), hx 21 (by omega), hx 22 (by omega), hx 23 (by omega), hx 25 (by omega), hx 52 (by omega)]
  exact ⟨h1, h2, h3, h4, h5, h6, h7, h8.cg h1.1.2.2.1 (fun s hs => hx _ (by omega)) (fun s hs => hx _ (by omega)), h9⟩
theorem I_img.cg {a b : Int32} {x x' : Nat → Nat → Int32} {n : Nat → Int32} (h : I_img a b x n) (hx : ∀ k, k < 53 → x' k = x k) : I_img a b x' n := by
  rcases h with h | ⟨h1, h2, h3⟩
  · exact Or.inl h
  · exact Or.inr ⟨h1, h2, h3.cg hx⟩
/-- a loop over 0 .. N - 1 whose state is a term of the counter -/
theorem lpD (N : Nat) (T : Nat → Prop) (hx : T N) (hs : ∀ i, i < N → T (i + 1) → T i) : T 0 := by
  have key : ∀ m i, i + m = N → T i := by
    intro m
    induction m with
    | zero => intro i hi; have e : N = i := (by omega); subst e; exact hx
    | succ m ih => intro i hi; exact hs i (by omega) (ih (i + 1) (by omega))
  exact key N 0 (by omega)
/-- a loop over i .. N - 1 with a state -/
theorem lpS {S : Type} (N : Nat) (T : Nat → S → Prop) (I : Nat → S → Prop) (hx : ∀ s, I N s → T N s) (hs : ∀ i s, i < N → I i s → (∀ s', I (i + 1) s' → T (i + 1) s') → T i s) (i : Nat) (s : S) (hi : i ≤ N) (h : I i s) : T i s := by
  have key : ∀ m i s, i + m = N → I i s → T i s := by
    intro m
    induction m with
    | zero => intro i s hi h; have e : N = i := (by omega); subst e; exact hx s h
    | succ m ih => intro i s hi h; exact hs i s (by omega) h (fun s' h' => ih (i + 1) s' (by omega) h')
  exact key (N - i) i s (by omega) h
