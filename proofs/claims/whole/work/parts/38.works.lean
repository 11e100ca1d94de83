/-! WORKING OUT A PART OF A LEASE: both, from the tie -/
section WORKS
variable {g : vt_GT} {σ : vt_Sg} {p1 p2 p3 p4 p5 : Int32}
def LB (st en cd : Nat → Int32) (c0 c1 c2 : List Int32) : Prop := c0.length + c1.length + c2.length ≤ 132 ∧ en 0 = nI c0.length ∧ en 1 = nI (c0.length + c1.length) ∧ en 2 = nI (c0.length + c1.length + c2.length) ∧
  (∀ j, j < c0.length + c1.length + c2.length → st j = (c0 ++ (c1 ++ c2)).getD j 0) ∧
  (∀ j, j < c0.length + c1.length + c2.length + 3 → cd j = (c0.map tr ++ 300000 :: (c1.map tr ++ 300000 :: (c2.map tr ++ [300000]))).getD j 0) ∧ wfp c0 ∧ wfp c1 ∧ wfp c2
theorem LC.lb {st en cd : Nat → Int32} (h : LC st en cd) : ∃ c0 c1 c2, LB st en cd c0 c1 c2 := h
theorem gd_l {a b : List Int32} {j : Nat} (h : j < a.length) : (a ++ b).getD j 0 = a.getD j 0 := by
  rw [List.getD_eq_getElem?_getD, List.getD_eq_getElem?_getD, List.getElem?_append_left h]
theorem gd_r {a b : List Int32} {j : Nat} : (a ++ b).getD (a.length + j) 0 = b.getD j 0 := by
  rw [List.getD_eq_getElem?_getD, List.getD_eq_getElem?_getD, List.getElem?_append_right (by omega), show a.length + j - a.length = j by omega]
theorem gd_c {x : Int32} {b : List Int32} {j : Nat} : (x :: b).getD (j + 1) 0 = b.getD j 0 := rfl
theorem gd_m {a : List Int32} {j : Nat} (h : j < a.length) : (a.map tr).getD j 0 = tr (a.getD j 0) := by
  rw [List.getD_eq_getElem?_getD, List.getD_eq_getElem?_getD, List.getElem?_map, List.getElem?_eq_getElem h]
  rfl
def prt (c0 c1 c2 : List Int32) (j : Nat) : List Int32 := if j = 0 then c0 else if j = 1 then c1 else c2
theorem c_X1_work {nv : Int32 → Int32} {cd : Nat → Int32} {c0 c1 c2 : List Int32} {s : Nat} (hs : s < 12) (hL : LB (σ (28 + s)) (σ (41 + s)) cd c0 c1 c2) {j : Nat} (hj : j < 3) {k : Int32}
    (hv : ∀ τ, Fc σ τ → ∀ i, i < 10 → ∀ Φ : Int32 → vt_Sg → Prop, Φ (nv (namesB.getD i 0)) τ → vt_Mi g 2 D_X1_valueOf [.int (namesB.getD i 0), .ref (g.2.1 116), .int (nI s), .int k] τ Φ)
    (Φ : Int32 → vt_Sg → Prop) (h : ∀ τ, Fc σ τ → Φ (evl nv (prt c0 c1 c2 j) (fun _ => 0) 0) τ) : vt_Mi g 3 D_X1_work [.ref (g.2.1 121), .ref (g.2.1 116), .int (nI s), .int (nI j), .int k] σ Φ := by
  obtain ⟨hl, e0, e1, e2, hst, _, w0, w1, w2⟩ := hL
  refine mI ok_X1_work.1 rfl rfl rfl (s_X1_work_0 g σ _ (nI s) (nI j) k ?_)
  rw [nI_clamp (n := s) (by omega)]
  have go : ∀ (off : Nat) (l : List Int32) (x3 x6 : Int32), off + l.length ≤ 132 → wfp l → (∀ q, q < l.length → σ (28 + s) (off + q) = l.getD q 0) → l = prt c0 c1 c2 j → TT g (vt_R 3) 0 0 D_X1_work none 50 [some (.ref (g.2.1 121)), some (.ref (g.2.1 116)), some (.int (nI s)), some (.int x3), some (.int k), some (.ref (g.2.1 25)), some (.int x6), some (.int (nI (off + l.length))), some (.int (nI off)), none] [] (su σ 121 (upd (σ 121) 1 0)) (fun v σ' => ∃ r, v = some (Value.int r) ∧ Φ r σ') := by
    intro off l x3 x6 b1 b2 b3 b4
    refine l_work (σ := σ) (nv := nv) hs b1 _ hv l off 0 (fun _ => 0) _ rfl b2 (by omega) b3 (fun k a _ => su_ne a) rfl (fun j hj => absurd hj (by omega)) (fun τ' ht => ⟨_, rfl, ?_⟩)
    rw [b4]
    exact h τ' ht
  have hj3 : j = 0 ∨ j = 1 ∨ j = 2 := by omega
  rcases hj3 with rfl | rfl | rfl
  · refine ⟨fun c => absurd rfl c, fun _ => ⟨inN hs (by omega), inN (by omega) (by omega), ?_⟩⟩
    rw [nI_clamp (by omega), e0]
    have := go 0 c0 (nI 0) 0 (by omega) w0 (fun q hq => by rw [Nat.zero_add, hst q (by omega), gd_l hq]) rfl
    rw [Nat.zero_add] at this
    exact this
  · refine ⟨fun _ => ⟨inN hs (by omega), inN (j := 0) (by omega) (by omega), inN (by omega) (by omega), ?_⟩, fun c => absurd c (by decide)⟩
    rw [nI_clamp (by omega), show (nI 1 - 1).toNatClampNeg = 0 by decide, e0, e1]
    exact go c0.length c1 (nI 1) _ (by omega) w1 (fun q hq => by rw [hst _ (by omega), gd_r, gd_l hq]) rfl
  · refine ⟨fun _ => ⟨inN hs (by omega), inN (j := 1) (by omega) (by omega), inN (by omega) (by omega), ?_⟩, fun c => absurd c (by decide)⟩
    rw [nI_clamp (by omega), show (nI 2 - 1).toNatClampNeg = 1 by decide, e1, e2]
    exact go (c0.length + c1.length) c2 (nI 2) _ (by omega) w2 (fun q hq => by rw [hst _ (by omega), show c0.length + c1.length + q = c0.length + (c1.length + q) by omega, gd_r, gd_r]) rfl
theorem tr_ne {v : Int32} {d d' : Nat} {l : List Int32} (h : dpt (v :: l) d = some d') : ¬ tr v = 300000 := by
  rw [dpt] at h
  by_cases z : isLf v = true
  · rcases lf_cases z with ⟨a1, a2, q, q1, q2⟩ | ⟨a1, a2, a3, q, q1, q2, q3⟩
    · rw [a2, q2]; exact fun c => absurd (nI_inj (b := 300000) c (by omega) (by omega)) (by omega)
    · rw [q2]; exact fun c => absurd (nI_inj (b := 300000) c (by omega) (by omega)) (by omega)
  · rw [if_neg z] at h
    by_cases y : v = -33
    · rw [y, tr_not]; decide
    · rw [if_neg y] at h
      by_cases x : isSg v = true
      · obtain ⟨q, q1, q2, q3, q4, q5, q6⟩ := sg_ix x y
        rw [q2]; exact fun c => absurd (nI_inj (b := 300000) c (by omega) (by omega)) (by omega)
      · rw [if_neg x] at h; cases h
theorem tr_all : ∀ (l : List Int32) (d d' : Nat), dpt l d = some d' → ∀ j, j < l.length → ¬ tr (l.getD j 0) = 300000
  | [], _, _, _, j, hj => absurd hj (Nat.not_lt_zero _)
  | v :: l, d, d', h, 0, _ => tr_ne h
  | v :: l, d, d', h, j + 1, hj => by
    rw [dpt] at h
    have hj : j < l.length := Nat.lt_of_succ_lt_succ hj
    by_cases z : isLf v = true
    · rw [if_pos z] at h; exact tr_all l _ _ h j hj
    · rw [if_neg z] at h
      by_cases y : v = -33
      · rw [if_pos y] at h
        by_cases x : 1 ≤ d
        · rw [if_pos x] at h; exact tr_all l _ _ h j hj
        · rw [if_neg x] at h; cases h
      · rw [if_neg y] at h
        by_cases x : isSg v = true
        · rw [if_pos x] at h
          by_cases w : 2 ≤ d
          · rw [if_pos w] at h; exact tr_all l _ _ h j hj
          · rw [if_neg w] at h; cases h
        · rw [if_neg x] at h; cases h
theorem c_X12_worked {nv : Int32 → Int32} {st en : Nat → Int32} {c0 c1 c2 : List Int32} {s : Nat} (hs : s < 12) (hL : LB st en (fun j => σ 169 (540 + 140 * s + j)) c0 c1 c2) {j : Nat} (hj : j < 3) {m k : Int32}
    (hv : ∀ τ, Fp σ τ → ∀ i, i < 10 → ∀ Φ : Int32 → vt_Sg → Prop, Φ (nv (namesB.getD i 0)) τ → vt_Mi g 3 D_X12_named [.ref (g.2.1 168), .int (nI i), .int (nI s), .int m, .int k] τ Φ)
    (Φ : Int32 → vt_Sg → Prop) (h : ∀ τ, Fp σ τ → Φ (evl nv (prt c0 c1 c2 j) (fun _ => 0) 0) τ) : vt_Mi g 4 D_X12_worked [.ref (g.2.1 168), .int (nI s), .int (nI j), .int m, .int k] σ Φ := by
  obtain ⟨hl, _, _, _, _, hcd, w0, w1, w2⟩ := hL
  have eb : (540 : Int32) + 140 * nI s = nI (540 + 140 * s) := lin 540 140 s
  refine mI ok_X12_worked.1 rfl rfl rfl (s_X12_worked_0 g σ _ (nI s) (nI j) m k ?_)
  rw [eb]
  generalize hB : 540 + 140 * s = B at hcd
  have hB2 : B + 140 ≤ 2220 := by omega
  have hcd : ∀ j, j < c0.length + c1.length + c2.length + 3 → σ 169 (B + j) = (c0.map tr ++ 300000 :: (c1.map tr ++ 300000 :: (c2.map tr ++ [300000]))).getD j 0 := hcd
  -- the code's places
  have k0 : ∀ q, q < c0.length → σ 169 (B + q) = tr (c0.getD q 0) := fun q hq => by
    rw [hcd q (by omega), gd_l (by rw [List.length_map]; exact hq), gd_m hq]
  have m0 : (c0.map tr).length = c0.length := List.length_map ..
  have m1 : (c1.map tr).length = c1.length := List.length_map ..
  have m2 : (c2.map tr).length = c2.length := List.length_map ..
  have t0 : σ 169 (B + c0.length) = 300000 := by
    rw [hcd c0.length (by omega), show c0.length = (c0.map tr).length + 0 by omega, gd_r]; rfl
  have k1 : ∀ q, q < c1.length → σ 169 (B + c0.length + 1 + q) = tr (c1.getD q 0) := fun q hq => by
    rw [show B + c0.length + 1 + q = B + (c0.length + 1 + q) by omega, hcd (c0.length + 1 + q) (by omega), show c0.length + 1 + q = (c0.map tr).length + (q + 1) by omega, gd_r, gd_c, gd_l (by rw [m1]; exact hq), gd_m hq]
  have t1 : σ 169 (B + c0.length + 1 + c1.length) = 300000 := by
    rw [show B + c0.length + 1 + c1.length = B + (c0.length + 1 + c1.length) by omega, hcd (c0.length + 1 + c1.length) (by omega), show c0.length + 1 + c1.length = (c0.map tr).length + (((c1.map tr).length + 0) + 1) by omega, gd_r, gd_c]; exact gd_r (j := 0)
  have k2 : ∀ q, q < c2.length → σ 169 (B + c0.length + 1 + c1.length + 1 + q) = tr (c2.getD q 0) := fun q hq => by
    rw [show B + c0.length + 1 + c1.length + 1 + q = B + (c0.length + 1 + c1.length + 1 + q) by omega, hcd (c0.length + 1 + c1.length + 1 + q) (by omega), show c0.length + 1 + c1.length + 1 + q = (c0.map tr).length + (((c1.map tr).length + (q + 1)) + 1) by omega, gd_r, gd_c, gd_r, gd_c, gd_l (by rw [m2]; exact hq), gd_m hq]
  have t2 : σ 169 (B + c0.length + 1 + c1.length + 1 + c2.length) = 300000 := by
    rw [show B + c0.length + 1 + c1.length + 1 + c2.length = B + (c0.length + 1 + c1.length + 1 + c2.length) by omega, hcd (c0.length + 1 + c1.length + 1 + c2.length) (by omega), show c0.length + 1 + c1.length + 1 + c2.length = (c0.map tr).length + (((c1.map tr).length + (((c2.map tr).length + 0) + 1)) + 1) by omega, gd_r, gd_c, gd_r, gd_c]; exact gd_r (j := 0)
  have go : ∀ (i : Nat) (l : List Int32) (x2 : Int32), i + l.length < 2220 → l.length ≤ 132 → wfp l → (∀ q, q < l.length → σ 169 (i + q) = tr (l.getD q 0)) → σ 169 (i + l.length) = 300000 → l = prt c0 c1 c2 j → TT g (vt_R 4) 0 0 D_X12_worked none 14 [some (.ref (g.2.1 168)), some (.int (nI s)), some (.int x2), some (.int m), some (.int k), some (.int (nI i)), some (.int (nI 0)), none, none] [] σ (fun v σ' => ∃ r, v = some (Value.int r) ∧ Φ r σ') := by
    intro i l x2 b0 b1 b2 b3 b4 b5
    refine s_X12_worked_14 g σ _ _ _ _ _ _ _ ⟨fun _ => ?_, fun c => absurd (show nI 0 ≤ 0 by decide) c⟩
    refine l_worked (σ := σ) (nv := nv) _ hv l i 0 (fun _ => 0) σ b0 (by omega) b2 b3 b4 (fun _ _ => rfl) (fun j hj => absurd hj (by omega)) (fun τ' ht => ⟨_, rfl, ?_⟩)
    rw [b5]
    exact h τ' ht
  have hj3 : j = 0 ∨ j = 1 ∨ j = 2 := by omega
  rcases hj3 with rfl | rfl | rfl
  · exact go B c0 _ (by omega) (by omega) w0 k0 t0 rfl
  · refine l_skip _ (left := 0) (by omega) c0.length B (by omega) (fun q hq => by rw [k0 q hq]; exact tr_all c0 0 1 w0 q hq) t0 ?_
    exact go _ c1 _ (by omega) (by omega) w1 k1 t1 rfl
  · refine l_skip _ (left := 1) (by omega) c0.length B (by omega) (fun q hq => by rw [k0 q hq]; exact tr_all c0 0 1 w0 q hq) t0 ?_
    refine l_skip _ (left := 0) (by omega) c1.length _ (by omega) (fun q hq => by rw [k1 q hq]; exact tr_all c1 0 1 w1 q hq) t1 ?_
    exact go _ c2 _ (by omega) (by omega) w2 k2 t2 rfl
end WORKS
