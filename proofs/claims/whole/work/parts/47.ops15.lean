/-! OPERATIONS: fall -/
section OPS15
variable {g : vt_GT} {σ : vt_Sg} {A : Nat → Option Nat} {t nd ns nm nl lv m : Nat} {b : (Nat → Option Nat) × Nat → Bool}
/-- two worlds that agree but for what a fall writes -/
def Agr (σ σ' : vt_Sg) : Prop := ∀ k, (k < 116 ∨ k = 169) → k ≠ 1 → k ≠ 15 → k ≠ 16 → k ≠ 17 → k ≠ 18 → k ≠ 53 → σ' k = σ k
theorem work_val2 (hRel : RelN t nd ns nm nl lv (fun k => σ (1 + k)) (σ 169)) (hA : inj12 A) (hlt : ∀ s, ns ≤ s → A s = none) {k : Int32} (hk : ¬ k < 0) {s p : Nat} (hs : s < ns) (ha : A s = some p) (hh : ¬ σ 26 s = 0) {j : Nat} (hj : j < 3) :
    ∃ R : Int32, ∀ σ', Agr σ σ' → (∀ τ, WX σ' A nd m τ → ∀ Φ : Int32 → vt_Sg → Prop, (∀ τ', WX σ' A nd m τ' → τ' 166 = τ 166 → Φ R τ') → vt_Mi g 3 D_X1_work [.ref (g.2.1 121), .ref (g.2.1 116), .int (nI s), .int (nI j), .int k] τ Φ) ∧
      (∀ υ, WM σ' A υ → ∀ Φ : Int32 → vt_Sg → Prop, (∀ υ', WM σ' A υ' → υ' 178 = υ 178 → Φ R υ') → vt_Mi g 4 D_X12_worked [.ref (g.2.1 168), .int (nI s), .int (nI j), .int (nI m), .int k] υ Φ) := by
  obtain ⟨⟨⟨bt, bd, bs, bm, bl, bv⟩, ⟨xt, xv, xd, xs, xm, xl⟩, ⟨yt, yd, ys, ym, yl, yv⟩⟩, hF, hR, hD, hS, hM, ⟨ls, lm, lt, lw, hln⟩, hE, hV⟩ := hRel
  have hF : A_feet (σ 2) (σ 169) := hF
  have hD : A_doors nd (σ 5) (σ 6) (σ 169) := hD
  have hS : A_shops ns (σ 8) (σ 9) (σ 10) (σ 11) (σ 12) (σ 13) (σ 14) (σ 169) := hS
  have hln : A_ln nl (σ 20) (σ 21) (σ 22) (σ 23) (σ 24) (σ 169) ls lm lt lw := hln
  have xs : σ 7 7 = nI ns := xs
  have xl : σ 19 5 = nI nl := xl
  rcases hE.2 s hs with ⟨h0, _⟩ | ⟨_, _, hL⟩
  · exact absurd h0 hh
  have hL : LC (σ (1 + (27 + s))) (σ (1 + (40 + s))) (fun j => σ 169 (540 + 140 * s + j)) := hL
  rw [show 1 + (27 + s) = 28 + s by omega, show 1 + (40 + s) = 41 + s by omega] at hL
  obtain ⟨c0, c1, c2, hB⟩ := hL.lb
  refine ⟨evl (nvl A nd (σ 2) (σ 5) (σ 6) (σ 8) (σ 9) (σ 10) (σ 12) (mx0 (sm nl (tkv (σ 20) (σ 21) (σ 22) (σ 23) (σ 24) (nI s) (nI m) k))) (nI m) s p) (prt c0 c1 c2 j) (fun _ => 0) 0, fun σ' ag => ⟨?_, ?_⟩⟩
  · intro τ hτ Φ h
    have a : ∀ k, k < 116 → k ≠ 1 → k ≠ 15 → k ≠ 16 → k ≠ 17 → k ≠ 18 → k ≠ 53 → τ k = σ k := fun k h1 h2 h3 h4 h5 h6 h7 => (hτ.1 k (by omega)).trans (ag k (by omega) h2 h3 h4 h5 h6 h7)
    refine c_X1_work (σ := τ) (by omega) (cd := fun j => σ 169 (540 + 140 * s + j)) (c0 := c0) (c1 := c1) (c2 := c2) (by rw [a (28 + s) (by omega) (by omega) (by omega) (by omega) (by omega) (by omega) (by omega), a (41 + s) (by omega) (by omega) (by omega) (by omega) (by omega) (by omega) (by omega)]; exact hB) hj (fun τ' hf i hi Ψ hΨ => ?_) Φ (fun τ' hf => h τ' (hτ.fc hf) (hf 166 (by omega) (by omega)))
    have w := hτ.fc hf
    have e : ∀ k, k < 116 → k ≠ 1 → k ≠ 15 → k ≠ 16 → k ≠ 17 → k ≠ 18 → k ≠ 53 → τ' k = σ k := fun k h1 h2 h3 h4 h5 h6 h7 => (w.1 k (by omega)).trans (ag k (by omega) h2 h3 h4 h5 h6 h7)
    refine c_X1_valueOf (σ := τ') (nl := nl) (ns := ns) w.2.1 hA hlt bs (by rw [e 7 (by omega) (by omega) (by omega) (by omega) (by omega) (by omega) (by omega)]; exact xs) (by rw [e 19 (by omega) (by omega) (by omega) (by omega) (by omega) (by omega) (by omega)]; exact xl) bl (by omega) ha Ψ ?_
    rw [e 2 (by omega) (by omega) (by omega) (by omega) (by omega) (by omega) (by omega), e 5 (by omega) (by omega) (by omega) (by omega) (by omega) (by omega) (by omega), e 6 (by omega) (by omega) (by omega) (by omega) (by omega) (by omega) (by omega), e 8 (by omega) (by omega) (by omega) (by omega) (by omega) (by omega) (by omega), e 9 (by omega) (by omega) (by omega) (by omega) (by omega) (by omega) (by omega), e 10 (by omega) (by omega) (by omega) (by omega) (by omega) (by omega) (by omega), e 12 (by omega) (by omega) (by omega) (by omega) (by omega) (by omega) (by omega), e 20 (by omega) (by omega) (by omega) (by omega) (by omega) (by omega) (by omega), e 21 (by omega) (by omega) (by omega) (by omega) (by omega) (by omega) (by omega), e 22 (by omega) (by omega) (by omega) (by omega) (by omega) (by omega) (by omega), e 23 (by omega) (by omega) (by omega) (by omega) (by omega) (by omega) (by omega), e 24 (by omega) (by omega) (by omega) (by omega) (by omega) (by omega) (by omega), w.2.2]
    exact hΨ
  · intro υ hυ Φ h
    have e9 : υ 169 = σ 169 := (hυ.1 169 (by omega)).trans (ag 169 (by omega) (by omega) (by omega) (by omega) (by omega) (by omega) (by omega))
    refine c_X12_worked (σ := υ) (by omega) (st := σ (28 + s)) (en := σ (41 + s)) (c0 := c0) (c1 := c1) (c2 := c2) (by rw [e9]; exact hB) hj (fun υ' hf i hi Ψ hΨ => ?_) Φ (fun υ' hf => h υ' (hυ.fp hf) (hf 178 (by omega)))
    have w := hυ.fp hf
    have e : υ' 169 = σ 169 := (w.1 169 (by omega)).trans (ag 169 (by omega) (by omega) (by omega) (by omega) (by omega) (by omega) (by omega))
    exact c_X12_named (σ := υ') (A := A) (nd := nd) (ns := ns) (nl := nl) (fe := σ 2) (dp := σ 5) (dq := σ 6) (ki := σ 8) (so := σ 9) (pu := σ 10) (lu := σ 11) (ne := σ 12) (sp := σ 13) (a := σ 14) (l1 := σ 20) (l2 := σ 21) (l3 := σ 22) (l4 := σ 23) (l5 := σ 24) w.2 hA hlt bs (by rw [e]; exact hS) (by rw [e]; exact hD) bd (by rw [e]; exact yd) (by rw [e]; exact hF) (by rw [e]; exact yl) bl (by rw [e]; exact hln) hs ha hk hi Ψ hΨ
theorem LVs_ex2 (hRel : RelN t nd ns nm nl lv (fun k => σ (1 + k)) (σ 169)) : ∃ b, ∀ σ', Agr σ σ' → LVs g σ' nd ns t b := by
  have ex : ∀ x : (Nat → Option Nat) × Nat, ∃ v : Bool, ∀ σ', Agr σ σ' → inj12 x.1 → (∀ s, ns ≤ s → x.1 s = none) → x.2 < ns → (x.1 x.2 = none → v = false) ∧ (σ' 26 x.2 = 0 → v = false) ∧ ∀ p, x.1 x.2 = some p → ¬ σ' 26 x.2 = 0 → ∃ R : Int32, (v = true ↔ ¬ R = 0) ∧
      (∀ τ, WX σ' x.1 nd t τ → ∀ Φ : Int32 → vt_Sg → Prop, (∀ τ', WX σ' x.1 nd t τ' → τ' 166 = τ 166 → Φ R τ') → vt_Mi g 3 D_X1_work [.ref (g.2.1 121), .ref (g.2.1 116), .int (nI x.2), .int 2, .int (nI t)] τ Φ) ∧
      (∀ υ, WM σ' x.1 υ → ∀ Φ : Int32 → vt_Sg → Prop, (∀ υ', WM σ' x.1 υ' → υ' 178 = υ 178 → Φ R υ') → vt_Mi g 4 D_X12_worked [.ref (g.2.1 168), .int (nI x.2), .int 2, .int (nI t), .int (nI t)] υ Φ) := by
    intro ⟨A, s⟩
    by_cases c : inj12 A ∧ (∀ s, ns ≤ s → A s = none) ∧ s < ns ∧ (∃ p, A s = some p) ∧ ¬ σ 26 s = 0
    · obtain ⟨hA, hlt, hs, ⟨p, ha⟩, hh⟩ := c
      have bt : t ≤ 120 := hRel.1.1.1
      obtain ⟨R, XY⟩ := work_val2 (g := g) (m := t) (k := nI t) hRel hA hlt (nI_pos (by omega)) hs ha hh (j := 2) (by omega)
      refine ⟨decide (¬ R = 0), fun σ' ag _ _ _ => ⟨fun z => ?_, fun z => absurd ((congrFun (ag 26 (by omega) (by omega) (by omega) (by omega) (by omega) (by omega) (by omega)) s).symm.trans z) hh, fun p' _ _ => ⟨R, decide_eq_true_iff, (XY σ' ag).1, (XY σ' ag).2⟩⟩⟩
      have z : A s = none := z
      rw [ha] at z; cases z
    · exact ⟨false, fun σ' ag h1 h2 h3 => ⟨fun _ => rfl, fun _ => rfl, fun p hp hh => absurd ⟨h1, h2, h3, ⟨p, hp⟩, fun z => hh ((congrFun (ag 26 (by omega) (by omega) (by omega) (by omega) (by omega) (by omega) (by omega)) s).trans z)⟩ c⟩⟩
  obtain ⟨b, hb⟩ := Classical.axiomOfChoice ex
  exact ⟨b, fun σ' ag A hA hlt s hs => hb (A, s) σ' ag hA hlt hs⟩
theorem fal_lt : ∀ n A, ∀ s ∈ fal b ns n A, s < ns
  | 0, _ => fun s h => by cases h
  | n + 1, A => by
    unfold fal
    cases hf : fnd (fun s => b (A, s)) 0 ns with
    | none => exact fun s h => by cases h
    | some s0 =>
      intro s h
      obtain ⟨_, s1, _⟩ := fnd_lt _ _ _ hf
      rcases List.mem_cons.mp h with e | e
      · subst e; omega
      · exact fal_lt n _ s e
theorem getD_mem {l : List Nat} {i : Nat} (h : i < l.length) : l.getD i 0 ∈ l := by
  rw [List.getD_eq_getElem?_getD, List.getElem?_eq_getElem h]
  exact List.getElem_mem h
theorem plc_app {ms mt ms' mt' : Nat → Nat} {mp mp' : Nat → Option Nat} {m s p : Nat} (h : ∀ i, i < nm → ms' i = ms i ∧ mt' i = mt i ∧ mp' i = mp i) : ∀ i, (∀ k, nm ≤ k → mp' k = none) → plc ms' mt' mp' m s (nm + i) = some p → plc ms mt mp m s nm = some p
  | 0, _, e => by rw [Nat.add_zero, plc_cong nm h] at e; exact e
  | i + 1, h2, e => by
    rw [← Nat.add_assoc, plc] at e
    by_cases c : ms' (nm + i) = s ∧ mt' (nm + i) ≤ m
    · rw [if_pos c, h2 (nm + i) (by omega)] at e; cases e
    · rw [if_neg c] at e; exact plc_app h i h2 e
theorem RelN.fl {x x' : Nat → Nat → Int32} {n n' : Nat → Int32} {l : List Nat} (h : RelN t nd ns nm nl lv x n) (hl : l.length ≤ 12) (hb : nm + l.length ≤ 200) (hs : ∀ i, i < l.length → l.getD i 0 < ns)
    (hx : ∀ k, k < 53 → k ≠ 0 → k ≠ 14 → k ≠ 15 → k ≠ 16 → k ≠ 17 → k ≠ 52 → x' k = x k) (h09 : x' 0 9 = x 0 9) (h08 : x' 0 8 = nI l.length) (h14 : x' 14 3 = nI (nm + l.length))
    (a : ∀ k, k < nm → x' 15 k = x 15 k ∧ x' 16 k = x 16 k ∧ x' 17 k = x 17 k) (c : ∀ i, i < l.length → x' 15 (nm + i) = nI (l.getD i 0) ∧ x' 16 (nm + i) = nI t ∧ x' 17 (nm + i) = -1000000005 ∧ x' 52 i = nI (l.getD i 0))
    (hn : ∀ j, j ≠ 3 → j ≠ 7 → ¬ (126 ≤ j ∧ j < 138) → ¬ (140 + nm ≤ j ∧ j < 140 + nm + l.length) → n' j = n j) (hn3 : n' 3 = nI (nm + l.length)) (hn7 : n' 7 = nI l.length) (d : ∀ i, i < l.length → n' (126 + i) = nI (l.getD i 0) ∧ n' (140 + nm + i) = nI (opC none + 13 * l.getD i 0 + 156 * t)) :
    RelN t nd ns (nm + l.length) nl l.length x' n' := by
  obtain ⟨⟨⟨bt, bd, bs, bm, bl, bv⟩, ⟨xt, xv, xd, xs, xm, xl⟩, ⟨yt, yd, ys, ym, yl, yv⟩⟩, h2, h3, h4, h5, ⟨ms, mt, mp, m1, m2, m3⟩, h7, h8, h9⟩ := h
  have q : ∀ k, k < 53 → k ≠ 0 ∧ k ≠ 14 ∧ k ≠ 15 ∧ k ≠ 16 ∧ k ≠ 17 ∧ k ≠ 52 → x' k = x k := fun k h1 h2 => hx k h1 h2.1 h2.2.1 h2.2.2.1 h2.2.2.2.1 h2.2.2.2.2.1 h2.2.2.2.2.2
  have r : ∀ j, (j < 126 ∧ j ≠ 3 ∧ j ≠ 7) ∨ (340 ≤ j) → n' j = n j := fun j hj => hn j (by omega) (by omega) (by omega) (by omega)
  have key : A_mv t ns (nm + l.length) (x' 15) (x' 16) (x' 17) n' (fun k => if k < nm then ms k else l.getD (k - nm) 0) (fun k => if k < nm then mt k else t) (fun k => if k < nm then mp k else none) := by
    have ag : ∀ i, i < nm → (fun k => if k < nm then ms k else l.getD (k - nm) 0) i = ms i ∧ (fun k => if k < nm then mt k else t) i = mt i ∧ (fun k => if k < nm then mp k else none) i = mp i := fun i hi => ⟨if_pos hi, if_pos hi, if_pos hi⟩
    refine ⟨fun k hk => ?_, fun k hk => ?_, fun m s s' p e1 e2 => ?_⟩
    · by_cases e : k < nm
      · show x' 15 k = nI (if k < nm then ms k else l.getD (k - nm) 0) ∧ x' 16 k = nI (if k < nm then mt k else t) ∧ x' 17 k = opN (if k < nm then mp k else none) ∧ n' (140 + k) = nI (opC (if k < nm then mp k else none) + 13 * (if k < nm then ms k else l.getD (k - nm) 0) + 156 * (if k < nm then mt k else t)) ∧ (if k < nm then ms k else l.getD (k - nm) 0) < ns ∧ (if k < nm then mt k else t) ≤ t ∧ ∀ p, (if k < nm then mp k else none) = some p → p < 12
        rw [if_pos e, if_pos e, if_pos e, (a k e).1, (a k e).2.1, (a k e).2.2, hn (140 + k) (by omega) (by omega) (by omega) (by omega)]
        exact m1 k e
      · obtain ⟨i, rfl⟩ : ∃ i, k = nm + i := ⟨k - nm, by omega⟩
        have hi : i < l.length := by omega
        show x' 15 (nm + i) = nI (if nm + i < nm then ms (nm + i) else l.getD (nm + i - nm) 0) ∧ x' 16 (nm + i) = nI (if nm + i < nm then mt (nm + i) else t) ∧ x' 17 (nm + i) = opN (if nm + i < nm then mp (nm + i) else none) ∧ n' (140 + (nm + i)) = nI (opC (if nm + i < nm then mp (nm + i) else none) + 13 * (if nm + i < nm then ms (nm + i) else l.getD (nm + i - nm) 0) + 156 * (if nm + i < nm then mt (nm + i) else t)) ∧ (if nm + i < nm then ms (nm + i) else l.getD (nm + i - nm) 0) < ns ∧ (if nm + i < nm then mt (nm + i) else t) ≤ t ∧ ∀ p, (if nm + i < nm then mp (nm + i) else none) = some p → p < 12
        rw [if_neg e, if_neg e, if_neg e, Nat.add_sub_cancel_left, ← Nat.add_assoc]
        obtain ⟨c1, c2, c3, c4⟩ := c i hi
        exact ⟨c1, c2, c3, (d i hi).2, hs i hi, Nat.le_refl _, fun p e => by cases e⟩
    · show (if k < nm then mt k else t) ≤ (if k + 1 < nm then mt (k + 1) else t)
      by_cases e : k + 1 < nm
      · rw [if_pos e, if_pos (by omega)]; exact m2 k e
      · rw [if_neg e]
        by_cases e' : k < nm
        · rw [if_pos e']; exact (m1 k e').2.2.2.2.2.1
        · rw [if_neg e']; exact Nat.le_refl _
    · exact m3 m s s' p (plc_app ag l.length (fun k hk => if_neg (by omega)) e1) (plc_app ag l.length (fun k hk => if_neg (by omega)) e2)
  unfold RelN
  rw [q 1 (by omega) (by omega), q 2 (by omega) (by omega), q 3 (by omega) (by omega), q 4 (by omega) (by omega), q 5 (by omega) (by omega), q 6 (by omega) (by omega), q 7 (by omega) (by omega), q 8 (by omega) (by omega), q 9 (by omega) (by omega), q 10 (by omega) (by omega), q 11 (by omega) (by omega), q 12 (by omega) (by omega), q 13 (by omega) (by omega), q 18 (by omega) (by omega), q 19 (by omega) (by omega), q 20 (by omega) (by omega), q 21 (by omega) (by omega), q 22 (by omega) (by omega), q 23 (by omega) (by omega), q 25 (by omega) (by omega)]
  exact ⟨⟨⟨bt, bd, bs, hb, bl, hl⟩, ⟨h09.trans xt, h08, xd, xs, h14, xl⟩, ⟨(r 0 (by omega)).trans yt, (r 1 (by omega)).trans yd, (r 2 (by omega)).trans ys, hn3, (r 4 (by omega)).trans yl, hn7⟩⟩, h2.fr (fun j _ _ => r j (by omega)), h3.fr (fun j _ _ => r j (by omega)), h4.fr bd (fun j _ _ => r j (by omega)), h5.fr bs (fun j _ _ => r j (by omega)), ⟨_, _, _, key⟩, h7.fr bl (fun j _ _ => r j (by omega)), (h8.cg bs (fun s hs => q _ (by omega) (by omega)) (fun s hs => q _ (by omega) (by omega))).fr bs (fun j _ _ => r j (by omega)) (fun j _ _ => r j (by omega)), fun i hi => (d i hi).1.trans (c i hi).2.2.2.symm⟩
/-- the component's moves of a fall -/
theorem l_fallX {l : List Nat} (hl : l.length ≤ 12) (hb : nm + l.length ≤ 200) (ht : σ 1 9 = nI t) (hg : ∀ i, i < l.length → σ 166 i = nI (l.getD i 0)) (hm : σ 15 3 = nI nm) (P : Option Value → vt_Sg → Prop)
    (h : ∀ τ : vt_Sg, (∀ k, k ≠ 1 → k ≠ 15 → k ≠ 16 → k ≠ 17 → k ≠ 18 → k ≠ 53 → τ k = σ k) → τ 1 9 = σ 1 9 → τ 1 8 = nI l.length → τ 15 3 = nI (nm + l.length) → (∀ k, k < nm → τ 16 k = σ 16 k ∧ τ 17 k = σ 17 k ∧ τ 18 k = σ 18 k) → (∀ i, i < l.length → τ 16 (nm + i) = nI (l.getD i 0) ∧ τ 17 (nm + i) = nI t ∧ τ 18 (nm + i) = -1000000005 ∧ τ 53 i = nI (l.getD i 0)) → P (some (.int (nI l.length))) τ) :
    TT g (vt_R 6) 0 0 D_X11_fall none 42 [some (.ref (g.2.1 0)), some (.int (nI l.length)), some (.int (nI 0))] [] σ P := by
  refine lpS l.length (fun i (τ : vt_Sg) => TT g (vt_R 6) 0 0 D_X11_fall none 42 [some (.ref (g.2.1 0)), some (.int (nI l.length)), some (.int (nI i))] [] τ P)
    (fun i τ => (∀ k, k ≠ 15 → k ≠ 16 → k ≠ 17 → k ≠ 18 → k ≠ 53 → τ k = σ k) ∧ τ 15 3 = nI (nm + i) ∧ (∀ k, k < nm → τ 16 k = σ 16 k ∧ τ 17 k = σ 17 k ∧ τ 18 k = σ 18 k) ∧ (∀ j, j < i → τ 16 (nm + j) = nI (l.getD j 0) ∧ τ 17 (nm + j) = nI t ∧ τ 18 (nm + j) = -1000000005 ∧ τ 53 j = nI (l.getD j 0))) ?_ ?_ 0 σ (by omega) ⟨fun k _ _ _ _ _ => rfl, hm, fun k hk => ⟨rfl, rfl, rfl⟩, fun j hj => absurd hj (by omega)⟩
  · intro τ ⟨i1, i2, i3, i4⟩
    refine s_X11_fall_42 g τ _ _ _ ⟨fun _ => h _ (fun k a b c d e f => ?_) ?_ ?_ i2 i3 i4, fun c => absurd (nI_le (Nat.le_refl _) (by omega)) c⟩
    · rw [su_ne a]; exact i1 k b c d e f
    · rw [su_same, upd_ne (by omega), i1 1 (by omega) (by omega) (by omega) (by omega) (by omega)]
    · rw [su_same, upd_same]
  · intro i τ hi ⟨i1, i2, i3, i4⟩ ih
    refine s_X11_fall_42 g τ _ _ _ ⟨fun c => absurd c (nI_ge hi (by omega)), fun _ => ⟨inN (by omega) (by omega), ?_⟩⟩
    rw [nI_clamp (by omega), i1 166 (by omega) (by omega) (by omega) (by omega) (by omega), i1 1 (by omega) (by omega) (by omega) (by omega) (by omega), hg i hi, ht]
    refine c_X7_add (σ := τ) i2 (by omega) _ ?_
    rw [nI_1]
    refine ih _ ⟨fun k a b c d e => ?_, rfl, fun k hk => ?_, fun j hj => ?_⟩
    · rw [su_ne e, su_ne a, su_ne d, su_ne c, su_ne b]; exact i1 k a b c d e
    · show upd (τ 16) (nm + i) _ k = _ ∧ upd (τ 17) (nm + i) _ k = _ ∧ upd (τ 18) (nm + i) _ k = _
      rw [upd_ne (by omega), upd_ne (by omega), upd_ne (by omega)]
      exact i3 k hk
    · show upd (τ 16) (nm + i) _ (nm + j) = _ ∧ upd (τ 17) (nm + i) _ (nm + j) = _ ∧ upd (τ 18) (nm + i) _ (nm + j) = _ ∧ upd (τ 53) i (τ 166 i) j = _
      by_cases e : j = i
      · subst e
        rw [upd_same, upd_same, upd_same, upd_same, i1 166 (by omega) (by omega) (by omega) (by omega) (by omega)]
        exact ⟨rfl, rfl, rfl, hg j hi⟩
      · rw [upd_ne (by omega), upd_ne (by omega), upd_ne (by omega), upd_ne e]
        exact i4 j (by omega)
/-- the reference's -/
theorem l_fallM {l : List Nat} (hl : l.length ≤ 12) (hb : nm + l.length ≤ 200) (ht : σ 169 0 = nI t) (hg : ∀ i, i < l.length → σ 178 i = nI (l.getD i 0)) (hm : σ 169 3 = nI nm) (P : Option Value → vt_Sg → Prop)
    (h : ∀ τ : vt_Sg, (∀ k, k ≠ 169 → τ k = σ k) → τ 169 3 = nI (nm + l.length) → τ 169 7 = nI l.length → (∀ j, j ≠ 3 → j ≠ 7 → ¬ (126 ≤ j ∧ j < 138) → ¬ (140 + nm ≤ j ∧ j < 140 + nm + l.length) → τ 169 j = σ 169 j) → (∀ i, i < l.length → τ 169 (126 + i) = nI (l.getD i 0) ∧ τ 169 (140 + nm + i) = nI (opC none + 13 * l.getD i 0 + 156 * t)) → P (some (.int (nI l.length))) τ) :
    TT g (vt_R 6) 0 0 D_X12_fall none 34 [some (.ref (g.2.1 168)), some (.int (nI l.length)), some (.int (nI 0))] [] σ P := by
  refine lpS l.length (fun i (τ : vt_Sg) => TT g (vt_R 6) 0 0 D_X12_fall none 34 [some (.ref (g.2.1 168)), some (.int (nI l.length)), some (.int (nI i))] [] τ P)
    (fun i τ => (∀ k, k ≠ 169 → τ k = σ k) ∧ τ 169 3 = nI (nm + i) ∧ (∀ j, j ≠ 3 → ¬ (126 ≤ j ∧ j < 138) → ¬ (140 + nm ≤ j ∧ j < 140 + nm + i) → τ 169 j = σ 169 j) ∧ (∀ j, j < i → τ 169 (126 + j) = nI (l.getD j 0) ∧ τ 169 (140 + nm + j) = nI (opC none + 13 * l.getD j 0 + 156 * t))) ?_ ?_ 0 σ (by omega) ⟨fun k _ => rfl, hm, fun j _ _ _ => rfl, fun j hj => absurd hj (by omega)⟩
  · intro τ ⟨i1, i2, i3, i4⟩
    refine s_X12_fall_34 g τ _ _ _ ⟨fun _ => h _ (fun k a => ?_) ?_ ?_ (fun j a b c d => ?_) (fun i hi => ?_), fun c => absurd (nI_le (Nat.le_refl _) (by omega)) c⟩
    · rw [su_ne a]; exact i1 k a
    · rw [su_same, upd_ne (by omega)]; exact i2
    · rw [su_same, upd_same]
    · rw [su_same, upd_ne b]; exact i3 j a c d
    · rw [su_same, upd_ne (by omega), upd_ne (by omega)]; exact i4 i hi
  · intro i τ hi ⟨i1, i2, i3, i4⟩ ih
    refine s_X12_fall_34 g τ _ _ _ ⟨fun c => absurd c (nI_ge hi (by omega)), fun _ => ⟨inN (by omega) (by omega), ?_⟩⟩
    have e1 : (126 : Int32) + nI i = nI (126 + i) := nI_add 126 i
    rw [nI_clamp (by omega), i1 178 (by omega), hg i hi, e1]
    refine c_X12_moves (σ := τ) (o := none) (t := t) i2 (by rw [i3 0 (by omega) (by omega) (by omega)]; exact ht) (by omega) _ (fun n' a1 a2 a3 => ⟨inN (by omega) (by omega), ?_⟩)
    rw [nI_1, nI_clamp (by omega), su_su]
    refine ih _ ⟨fun k a => ?_, ?_, fun j a c d => ?_, fun j hj => ?_⟩
    · rw [su_ne a]; exact i1 k a
    · show upd n' (126 + i) _ 3 = _
      rw [upd_ne (by omega)]; exact a2
    · show upd n' (126 + i) _ j = _
      rw [upd_ne (by omega), a1 j a (by omega)]; exact i3 j a c (by omega)
    · show upd n' (126 + i) (su τ 169 n' 178 i) (126 + j) = _ ∧ upd n' (126 + i) _ (140 + nm + j) = _
      rw [upd_ne (show 140 + nm + j ≠ 126 + i by omega), su_ne (by omega), i1 178 (by omega)]
      by_cases e : j = i
      · subst e
        rw [upd_same]
        exact ⟨hg j hi, by rw [Nat.add_assoc]; exact a3⟩
      · rw [upd_ne (by omega), a1 (126 + j) (by omega) (by omega), a1 (140 + nm + j) (by omega) (by omega)]
        exact i4 j (by omega)
theorem op_fall (hI : Inv σ) : vt_Mi g 6 D_X11_fall [.ref (g.2.1 0)] σ (fun r σ1 => vt_Mi g 6 D_X12_fall [.ref (g.2.1 168)] σ1 (fun r' σ2 => r = r' ∧ Inv σ2)) := by
  obtain ⟨⟨t, nd, ns, nm, nl, lv, hN, hF, hR, hD, hS, hM, hL, hE, hV⟩, h2⟩ := id hI
  obtain ⟨⟨bt, bd, bs, bm, bl, bv⟩, ⟨xt, xv, xd, xs, xm, xl⟩, ⟨yt, yd, ys, ym, yl, yv⟩⟩ := id hN
  have xt : σ 1 9 = nI t := xt
  have xd : σ 4 2 = nI nd := xd
  have xs : σ 7 7 = nI ns := xs
  have xm : σ 15 3 = nI nm := xm
  obtain ⟨ms, mt, mp, hmv⟩ := id hM
  have hmv : A_mv t ns nm (σ 16) (σ 17) (σ 18) (σ 169) ms mt mp := hmv
  have hRel : RelN t nd ns nm nl lv (fun k => σ (1 + k)) (σ 169) := ⟨hN, hF, hR, hD, hS, hM, hL, hE, hV⟩
  have LK : ∀ Φ : vt_Sg → Prop, (∀ τ, Fl σ τ → τ 116 1 = nI t → CR τ (fun s => plc ms mt mp t s nm) nd → Φ τ) → vt_Mv g 2 D_X2_look [.ref (g.2.1 116), .int (σ 1 9)] σ Φ := by
    intro Φ h
    rw [xt]
    exact c_X2_look (σ := σ) (n := σ 169) hmv xm bm bs xs bd xd bt (m := t) (by omega) _ (fun τ hl hm1 hC => h τ hl hm1 hC)
  have hA := hmv.inj bs t
  have hlt := hmv.lt t
  have FS : ∀ (υ : vt_Sg), υ 169 = σ 169 → ∀ Φ : vt_Sg → Prop, (∀ f : Nat → Int32, (∀ s, s < 12 → f s = opM (plc ms mt mp t s nm)) → Φ (su υ 175 f)) → vt_Mv g 1 D_X12_findStands [.ref (g.2.1 168), .int (υ 169 0)] υ Φ := by
    intro υ e Φ h
    rw [e, yt]
    exact c_X12_findStands (σ := υ) (t := t) (ns := ns) (nm := nm) (m1 := σ 16) (m2 := σ 17) (m3 := σ 18) (ms := ms) (mt := mt) (mp := mp) (by rw [e]; exact ys) (by rw [e]; exact ym) bm (by rw [e]; exact hmv) bs bt (by omega) Φ h
  generalize hAA : (fun s => plc ms mt mp t s nm) = A at LK hA
  have FS : ∀ (υ : vt_Sg), υ 169 = σ 169 → ∀ Φ : vt_Sg → Prop, (∀ f : Nat → Int32, (∀ s, s < 12 → f s = opM (A s)) → Φ (su υ 175 f)) → vt_Mv g 1 D_X12_findStands [.ref (g.2.1 168), .int (υ 169 0)] υ Φ := fun υ e Φ h => FS υ e Φ (fun f hf => h f (fun s hs => by rw [hf s hs, ← hAA]))
  have AA : ∀ s, plc ms mt mp t s nm = A s := fun s => by rw [← hAA]
  have hlt : ∀ s, ns ≤ s → A s = none := fun s hs => by rw [← AA]; exact hlt s hs
  have hE : A_leases ns (σ 26) (fun s => σ (1 + (27 + s))) (fun s => σ (1 + (40 + s))) (σ 169) := hE
  have hEq : ∀ s, s < ns → (σ 26 s = 0 ↔ ¬ 0 < σ 169 (37 + 8 * s)) := by
    intro s hs
    rcases hE.2 s hs with ⟨a1, a2⟩ | ⟨a1, ⟨q, q1, q2, q3⟩, _⟩
    · rw [a1, a2]; exact ⟨fun _ => by decide, fun _ => rfl⟩
    · rw [a1, q3]; exact ⟨fun c => absurd c (by decide), fun c => absurd (nI_lt (a := 0) q1 (by omega)) c⟩
  obtain ⟨b, hb⟩ := LVs_ex2 (g := g) hRel
  have hb0 : LVs g σ nd ns t b := hb σ (fun _ _ _ _ _ _ _ _ => rfl)
  -- the reference, from a world that agrees
  have M : ∀ (r : Int32) (σ1 : vt_Sg), Agr σ σ1 → (∀ υ : vt_Sg, (∀ k, (k < 116 ∨ (122 < k ∧ k < 175 ∧ k ≠ 166)) → υ k = σ1 k) → (∀ i, i < (fal b ns 12 A).length → υ 178 i = nI ((fal b ns 12 A).getD i 0)) →
      (nI (nm + (fal b ns 12 A).length) ≤ 200 → TT g (vt_R 6) 0 0 D_X12_fall none 34 [some (.ref (g.2.1 168)), some (.int (nI (fal b ns 12 A).length)), some (.int (nI 0))] [] υ (fun v σ' => ∃ r', v = some (Value.int r') ∧ r = r' ∧ Inv σ')) ∧ (¬ nI (nm + (fal b ns 12 A).length) ≤ 200 → r = -1000000003 ∧ Inv υ)) →
      vt_Mi g 6 D_X12_fall [.ref (g.2.1 168)] σ1 (fun r' σ2 => r = r' ∧ Inv σ2) := by
    intro r σ1 ag H
    have e9 : σ1 169 = σ 169 := ag 169 (by omega) (by omega) (by omega) (by omega) (by omega) (by omega) (by omega)
    have e26 : σ1 26 = σ 26 := ag 26 (by omega) (by omega) (by omega) (by omega) (by omega) (by omega) (by omega)
    refine mI ok_X12_fall.1 rfl rfl rfl (s_X12_fall_0 g σ1 _ (FS σ1 e9 _ (fun f hf => ?_)))
    refine c_X12_findFall (σ := σ1) (A := A) (hb σ1 ag) hA hlt bs (by rw [e9]; exact ys) (by rw [e9]; exact yt) (by rw [e9, e26]; exact hEq) (υ := su σ1 175 f) ⟨fun k hk => su_ne (by omega), fun o ho => hf o ho⟩ _ (fun υ k1 k2 => ?_)
    obtain ⟨H1, H2⟩ := H υ k1 k2
    have e3 : υ 169 3 = nI nm := by rw [k1 169 (by omega), e9]; exact ym
    rw [e3, nI_add]
    exact ⟨H1, fun c => ⟨_, rfl, H2 c⟩⟩
  refine mI ok_X11_fall.1 rfl rfl rfl (s_X11_fall_0 g σ _ (LK _ (fun τ hl hm1 hC => ?_)))
  have W : WX σ A nd t τ := ⟨fun k hk => hl.at k (by omega), hC, hm1⟩
  refine c_X11_letFall hb0 hA hlt bs xs xt bd xd W _ (fun τ3 g1 g2 => ?_)
  have e15 : τ3 15 3 = nI nm := by rw [g1 15 (by omega)]; exact xm
  have ll := fal_len (b := b) (ns := ns) 12 A
  have lm := fal_lt (b := b) (ns := ns) 12 A
  rw [e15, nI_add]
  generalize hL' : fal b ns 12 A = l at *
  refine ⟨fun c => ?_, fun c => ⟨_, rfl, M _ τ3 (fun k hk _ _ _ _ _ _ => g1 k (by omega)) (fun υ k1 k2 => ⟨fun c' => absurd c' c, fun _ => ⟨rfl, hI.fr (fun k hk => (k1 k (by omega)).trans (g1 k (by omega)))⟩⟩)⟩⟩
  have hbb : nm + l.length ≤ 200 := by
    rcases Nat.lt_or_ge 200 (nm + l.length) with q | q
    · exact absurd c (nI_ge (a := 200) q (by omega))
    · exact q
  refine l_fallX (σ := τ3) ll hbb (by rw [g1 1 (by omega)]; exact xt) g2 e15 _ (fun τ4 f1 f2 f3 f4 f5 f6 => ⟨_, rfl, ?_⟩)
  refine M _ τ4 (fun k hk a1 a2 a3 a4 a5 a6 => (f1 k a1 a2 a3 a4 a5 a6).trans (g1 k (by omega))) (fun υ k1 k2 => ⟨fun _ => ?_, fun c' => absurd c c'⟩)
  have e9 : υ 169 = σ 169 := by rw [k1 169 (by omega), f1 169 (by omega) (by omega) (by omega) (by omega) (by omega) (by omega), g1 169 (by omega)]
  refine l_fallM (σ := υ) ll hbb (by rw [e9]; exact yt) k2 (by rw [e9]; exact ym) _ (fun υ2 u1 u2 u3 u4 u5 => ⟨_, rfl, rfl, ?_⟩)
  have E : ∀ k, (k < 116 ∨ (122 < k ∧ k < 175 ∧ k ≠ 166 ∧ k ≠ 169)) → k ≠ 1 → k ≠ 15 → k ≠ 16 → k ≠ 17 → k ≠ 18 → k ≠ 53 → υ2 k = σ k := fun k hk a1 a2 a3 a4 a5 a6 => by rw [u1 k (by omega), k1 k (by omega), f1 k a1 a2 a3 a4 a5 a6, g1 k (by omega)]
  have E4 : ∀ k, k < 116 → υ2 k = τ4 k := fun k hk => by rw [u1 k (by omega), k1 k (by omega)]
  have E3 : ∀ k, k < 116 → τ3 k = σ k := fun k hk => g1 k (by omega)
  have key : RelN t nd ns (nm + l.length) nl l.length (fun k => υ2 (1 + k)) (υ2 169) := by
    refine hRel.fl ll hbb (fun i hi => lm _ (getD_mem hi)) (fun k hk a1 a2 a3 a4 a5 a6 => E (1 + k) (by omega) (by omega) (by omega) (by omega) (by omega) (by omega) (by omega)) ?_ ?_ ?_ (fun k hk => ?_) (fun i hi => ?_) (fun j a1 a2 a3 a4 => ?_) u2 u3 u5
    · show υ2 1 9 = σ 1 9
      rw [E4 1 (by omega), f2, E3 1 (by omega)]
    · show υ2 1 8 = _
      rw [E4 1 (by omega)]; exact f3
    · show υ2 15 3 = _
      rw [E4 15 (by omega)]; exact f4
    · show υ2 16 k = σ 16 k ∧ υ2 17 k = σ 17 k ∧ υ2 18 k = σ 18 k
      rw [E4 16 (by omega), E4 17 (by omega), E4 18 (by omega), ← E3 16 (by omega), ← E3 17 (by omega), ← E3 18 (by omega)]
      exact f5 k hk
    · show υ2 16 (nm + i) = _ ∧ υ2 17 (nm + i) = _ ∧ υ2 18 (nm + i) = _ ∧ υ2 53 i = _
      rw [E4 16 (by omega), E4 17 (by omega), E4 18 (by omega), E4 53 (by omega)]
      exact f6 i hi
    · rw [← e9]; exact u4 j a1 a2 a3 a4
  have E' : ∀ k, (k = 0 ∨ (54 ≤ k ∧ k < 116) ∨ (122 < k ∧ k < 175 ∧ k ≠ 166 ∧ k ≠ 169)) → υ2 k = σ k := fun k hk => E k (by omega) (by omega) (by omega) (by omega) (by omega) (by omega) (by omega)
  obtain ⟨i1, i2, i3, i4⟩ := h2
  refine ⟨⟨t, nd, ns, nm + l.length, nl, l.length, key⟩, ?_, ?_, ?_, ?_⟩
  · rw [E' 0 (by omega), E' 168 (by omega), E' 170 (by omega)]
    exact i1.cg (fun k hk => E' _ (by omega))
  · rw [E' 107 (by omega), E' 168 (by omega), E' 110 (by omega), E' 171 (by omega)]; exact i2
  · rw [E' 0 (by omega), E' 168 (by omega), E' 167 (by omega), E' 172 (by omega)]; exact i3
  · rw [E' 115 (by omega), E' 173 (by omega), E' 113 (by omega), E' 114 (by omega), E' 174 (by omega)]; exact i4
end OPS15
