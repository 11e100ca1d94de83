/-! OPERATIONS: lease -/
section OPS17
variable {g : vt_GT} {σ τ υ : vt_Sg} {p1 : Int32} {t nd ns nm nl lv s q : Nat}
theorem RelN.ls {x x' : Nat → Nat → Int32} {n n' : Nat → Int32} (h : RelN t nd ns nm nl lv x n) (hs : s < ns) (hx : ∀ k, k < 53 → k ≠ 25 → k ≠ 27 + s → k ≠ 40 + s → x' k = x k) (h25 : x' 25 = upd (x 25) s 1) (hn : ∀ j, j ≠ 37 + 8 * s → ¬ (540 + 140 * s ≤ j ∧ j < 540 + 140 * s + 140) → n' j = n j) (hq0 : 0 < q) (hq : q ≤ 132) (h37 : n' (37 + 8 * s) = nI q) (hLC : LC (x' (27 + s)) (x' (40 + s)) (fun j => n' (540 + 140 * s + j))) : RelN t nd ns nm nl lv x' n' := by
  obtain ⟨⟨⟨bt, bd, bs, bm, bl, bv⟩, ⟨xt, xv, xd, xs, xm, xl⟩, ⟨yt, yd, ys, ym, yl, yv⟩⟩, h2, h3, h4, h5, h6, h7, h8, h9⟩ := h
  have e : ∀ k, k < 25 ∨ k = 52 → x' k = x k := fun k hk => hx k (by omega) (by omega) (by omega) (by omega)
  have r : ∀ j, j < 30 ∨ (126 ≤ j ∧ j < 540) → n' j = n j := fun j hj => hn j (by omega) (by omega)
  unfold RelN
  rw [e 0 (by omega), e 1 (by omega), e 2 (by omega), e 3 (by omega), e 4 (by omega), e 5 (by omega), e 6 (by omega), e 7 (by omega), e 8 (by omega), e 9 (by omega), e 10 (by omega), e 11 (by omega), e 12 (by omega), e 13 (by omega), e 14 (by omega), e 15 (by omega), e 16 (by omega), e 17 (by omega), e 18 (by omega), e 19 (by omega), e 20 (by omega), e 21 (by omega), e 22 (by omega), e 23 (by omega), e 52 (by omega)]
  refine ⟨⟨⟨bt, bd, bs, bm, bl, bv⟩, ⟨xt, xv, xd, xs, xm, xl⟩, ⟨(r 0 (by omega)).trans yt, (r 1 (by omega)).trans yd, (r 2 (by omega)).trans ys, (r 3 (by omega)).trans ym, (r 4 (by omega)).trans yl, (r 7 (by omega)).trans yv⟩⟩, h2.fr (fun j _ _ => r j (by omega)), h3.fr (fun j _ _ => r j (by omega)), h4.fr bd (fun j _ _ => r j (by omega)), fun s' hs' => ?_, h6.fr bm (fun j _ _ => r j (by omega)), h7.fr bl (fun j _ _ => r j (by omega)), ⟨fun s' h1' h2' => ?_, fun s' hs' => ?_⟩, h9.fr bv (fun j _ _ => r j (by omega))⟩
  · have w : ∀ c, c < 7 → n' (30 + c + 8 * s') = n (30 + c + 8 * s') := fun c hc => hn _ (by omega) (by omega)
    rw [w 0 (by omega), w 1 (by omega), w 2 (by omega), w 3 (by omega), w 4 (by omega), w 5 (by omega), w 6 (by omega)]
    exact h5 s' hs'
  · rw [h25, upd_ne (by omega)]; exact h8.1 s' h1' h2'
  · rw [h25]
    by_cases z : s' = s
    · subst z
      exact Or.inr ⟨upd_same, ⟨q, hq0, hq, h37⟩, hLC⟩
    · rw [upd_ne z, hn (37 + 8 * s') (by omega) (by omega)]
      show (x 25 s' = 0 ∧ n (37 + 8 * s') = 0) ∨ (x 25 s' = 1 ∧ (∃ q, 0 < q ∧ q ≤ 132 ∧ n (37 + 8 * s') = nI q) ∧ LC (x' (27 + s')) (x' (40 + s')) (fun j => n' (540 + 140 * s' + j)))
      rw [hx (27 + s') (by omega) (by omega) (by omega) (by omega), hx (40 + s') (by omega) (by omega) (by omega) (by omega)]
      rcases h8.2 s' hs' with w | ⟨w1, w2, w3⟩
      · exact Or.inl w
      · exact Or.inr ⟨w1, w2, w3.fr (fun j hj => hn _ (by omega) (by omega))⟩
/-- the tape is used up, and nothing else has changed that is kept -/
theorem Inv.tp {σ' : vt_Sg} (hI : Inv σ) (e : ∀ k, k < 107 ∨ (113 ≤ k ∧ k < 116) ∨ k = 167 ∨ (168 < k ∧ k < 175) → σ' k = σ k) (h0 : σ' 107 0 = 0) (h4 : σ' 168 4 = 0) (h8 : ∀ j, j < 10 → j ≠ 4 → σ' 168 j = σ 168 j) : Inv σ' := by
  obtain ⟨j1, j2, j3, j4, j5⟩ := hI
  refine ⟨?_, ?_, ?_, ?_, ?_⟩
  · rw [e 169 (by omega)]; exact j1.cg (fun k hk => e _ (by omega))
  · rw [e 0 (by omega), h8 2 (by omega) (by omega), e 170 (by omega)]; exact j2.cg (fun k hk => e _ (by omega))
  · rw [h0, h4]; exact ⟨0, by omega, rfl, rfl, fun i hi => absurd hi (by omega)⟩
  · rw [e 0 (by omega), h8 6 (by omega) (by omega), e 167 (by omega), e 172 (by omega)]; exact j4
  · rw [e 115 (by omega), e 173 (by omega), e 113 (by omega), e 114 (by omega), e 174 (by omega)]; exact j5
/-- the reference's code comes to its shop -/
theorem l_leaseM {l : List Int32} {N s : Nat} {x2 : Int32} (hN : N ≤ 140) (hs : s < 12) (h17 : σ 168 17 = nI N) (hc : ∀ j, j < N → σ 176 j = l.getD j 0) (P : Option Value → vt_Sg → Prop) (H : ∀ h : Nat → Int32, (∀ j, j ≠ 37 + 8 * s → ¬ (540 + 140 * s ≤ j ∧ j < 540 + 140 * s + 140) → h j = σ 169 j) → h (37 + 8 * s) = σ 168 18 → (∀ j, j < N → h (540 + 140 * s + j) = l.getD j 0) → P (some (.int (σ 168 18))) (su σ 169 h)) : TT g (vt_R 121) 0 0 D_X12_lease none 145 [some (.ref (g.2.1 168)), some (.int (nI s)), some (.int x2), some (.int 0)] [] σ P := by
  have key : ∀ m i (h : Nat → Int32), i + m = N → (∀ j, ¬ (540 + 140 * s ≤ j ∧ j < 540 + 140 * s + 140) → h j = σ 169 j) → (∀ j, j < i → h (540 + 140 * s + j) = l.getD j 0) → TT g (vt_R 121) 0 0 D_X12_lease none 145 [some (.ref (g.2.1 168)), some (.int (nI s)), some (.int x2), some (.int (nI i))] [] (su σ 169 h) P := by
    intro m
    induction m with
    | zero =>
      intro i h hi i1 i2
      have : i = N := hi
      subst this
      refine s_X12_lease_145 g _ _ _ _ _ ?_
      have e7 : (30 : Int32) + 8 * nI s + 7 = nI (30 + 8 * s + 7) := shop_ix (f := 7)
      have c8 : su σ 169 h 168 = σ 168 := su_ne (by omega)
      rw [c8, h17, e7, su_su, su_same, nI_clamp (show 30 + 8 * s + 7 < 2 ^ 31 by omega), show 30 + 8 * s + 7 = 37 + 8 * s by omega]
      refine ⟨fun _ => ⟨inN (by omega) (by omega), H _ (fun j a1 a2 => ?_) upd_same (fun j hj => ?_)⟩, fun c => absurd (nI_le (Nat.le_refl _) (by omega)) c⟩
      · rw [upd_ne a1]; exact i1 j a2
      · rw [upd_ne (by omega)]; exact i2 j hj
    | succ m ih =>
      intro i h hi i1 i2
      refine s_X12_lease_145 g _ _ _ _ _ ?_
      have c8 : su σ 169 h 168 = σ 168 := su_ne (by omega)
      have c76 : su σ 169 h 176 = σ 176 := su_ne (by omega)
      have ei : (540 : Int32) + 140 * nI s + nI i = nI (540 + 140 * s + i) := by
        show nI 540 + nI 140 * nI s + nI i = _
        rw [pk_mul, nI_add, nI_add]
      rw [c8, c76, h17, ei, nI_clamp (show i < 2 ^ 31 by omega), nI_clamp (show 540 + 140 * s + i < 2 ^ 31 by omega), su_su, su_su, su_same, nI_1, hc i (by omega)]
      refine ⟨fun c => absurd c (nI_ge (by omega) (by omega)), fun _ => ⟨inN (by omega) (by omega), inN (by omega) (by omega), ih (i + 1) _ (by omega) (fun j a1 => ?_) (fun j hj => ?_)⟩⟩
      · rw [upd_ne (by omega)]; exact i1 j a1
      · by_cases w : j = i
        · subst w; rw [upd_same]
        · rw [upd_ne (by omega)]; exact i2 j (by omega)
  have l0 := key N 0 (σ 169) (by omega) (fun j _ => rfl) (fun j hj => absurd hj (by omega))
  rw [su_self] at l0
  exact l0
set_option maxHeartbeats 4000000 in
theorem op_lease (hI : Inv σ) : vt_Mi g 122 D_X11_lease [.ref (g.2.1 0), .int p1] σ (fun r σ1 => vt_Mi g 121 D_X12_lease [.ref (g.2.1 168), .int p1] σ1 (fun r' σ2 => r = r' ∧ Inv σ2)) := by
  obtain ⟨⟨t, nd, ns, nm, nl, lv, hRel⟩, hi, ⟨L, hL, zx, zm, hT⟩, hw, hsh⟩ := id hI
  obtain ⟨⟨bt, bd, bs, bm, bl, bv⟩, ⟨xt, xv, xd, xs, xm, xl⟩, ⟨yt, yd, ys, ym, yl, yv⟩⟩ := hRel.1
  have xs : σ 7 7 = nI ns := xs
  have hs : ∀ a : Int32, (¬ a < 0 ∧ ¬ σ 7 7 ≤ a) ↔ (¬ a < 0 ∧ ¬ σ 169 2 - 1 < a) := fun a => by rw [xs, ys]; exact shop_has (by omega)
  -- the text
  have ex : ∃ tt : Nat → Nat, (∀ i, i < L → tt i < 256) ∧ ∀ i, i < L → σ 171 i = nI (tt i) ∧ σ 110 i = sx (tt i) := by
    have : ∀ i, ∃ v : Nat, i < L → v < 256 ∧ σ 171 i = nI v ∧ σ 110 i = sx v := fun i => by
      by_cases c : i < L
      · obtain ⟨v, v1, v2, v3⟩ := hT i c
        exact ⟨v, fun _ => ⟨v1, v2, v3⟩⟩
      · exact ⟨0, fun z => absurd z c⟩
    obtain ⟨f, hf⟩ := Classical.axiomOfChoice this
    exact ⟨f, fun i hi => (hf i hi).1, fun i hi => (hf i hi).2⟩
  obtain ⟨tt, ht, hTT⟩ := ex
  obtain ⟨ok, x, c0, c1, c2, pp, hok, hx, hX, hM⟩ := read_all (g := g) hL ht
  -- the reference, from a world with the same text
  have MR : ∀ (r : Int32) (σ1 : vt_Sg), (∀ k, k = 168 ∨ k = 171 ∨ k = 169 → σ1 k = σ k) → ((¬ p1 < 0 ∧ ¬ σ 7 7 ≤ p1) → ok = false → r = -100 - nI x) → (¬ (¬ p1 < 0 ∧ ¬ σ 7 7 ≤ p1) → r = -1000000001) →
      (∀ υ : vt_Sg, (∀ k, k ≠ 168 → k ≠ 176 → υ k = σ1 k) → (∀ j, j < 10 → j ≠ 4 → υ 168 j = σ 168 j) → υ 168 4 = 0 → (((¬ p1 < 0 ∧ ¬ σ 7 7 ≤ p1) → ok = false) → Inv υ)) →
      ((¬ p1 < 0 ∧ ¬ σ 7 7 ≤ p1) → ok = true → r = nI pp ∧ ∀ (υ : vt_Sg), (∀ k, k ≠ 168 → k ≠ 176 → k ≠ 169 → υ k = σ1 k) → (∀ j, j < 10 → j ≠ 4 → υ 168 j = σ 168 j) → υ 168 4 = 0 → (∀ s, p1 = nI s → s < ns → (∀ j, j ≠ 37 + 8 * s → ¬ (540 + 140 * s ≤ j ∧ j < 540 + 140 * s + 140) → υ 169 j = σ 169 j) ∧ υ 169 (37 + 8 * s) = nI pp ∧ ∀ j, j < c0.length + c1.length + c2.length + 3 → υ 169 (540 + 140 * s + j) = (c0.map tr ++ 300000 :: (c1.map tr ++ 300000 :: (c2.map tr ++ [300000]))).getD j 0) → Inv υ) →
      vt_Mi g 121 D_X12_lease [.ref (g.2.1 168), .int p1] σ1 (fun r' σ2 => r = r' ∧ Inv σ2) := by
    intro r σ1 e R0 Rb R1 R2
    refine mI ok_X12_lease.1 rfl rfl rfl (s_X12_lease_0 g σ1 _ p1 ?_)
    rw [su_su, su_su, su_su, su_su, su_su, su_su]
    have e8 : σ1 168 = σ 168 := e 168 (by omega)
    have f0 : ∀ j, j < 10 ∨ 18 < j → upd (upd (upd (upd (upd (upd (upd (σ1 168) 11 0) 12 0) 13 0) 14 0) 15 0) 17 0) 18 0 j = σ 168 j := fun j hj => by
      rw [upd_ne (by omega), upd_ne (by omega), upd_ne (by omega), upd_ne (by omega), upd_ne (by omega), upd_ne (by omega), upd_ne (by omega), e8]
    have f11 : upd (upd (upd (upd (upd (upd (upd (σ1 168) 11 0) 12 0) 13 0) 14 0) 15 0) 17 0) 18 0 11 = 0 := by rw [upd_ne (by omega), upd_ne (by omega), upd_ne (by omega), upd_ne (by omega), upd_ne (by omega), upd_ne (by omega), upd_same]
    have f12 : upd (upd (upd (upd (upd (upd (upd (σ1 168) 11 0) 12 0) 13 0) 14 0) 15 0) 17 0) 18 0 12 = 0 := by rw [upd_ne (by omega), upd_ne (by omega), upd_ne (by omega), upd_ne (by omega), upd_ne (by omega), upd_same]
    have f13 : upd (upd (upd (upd (upd (upd (upd (σ1 168) 11 0) 12 0) 13 0) 14 0) 15 0) 17 0) 18 0 13 = 0 := by rw [upd_ne (by omega), upd_ne (by omega), upd_ne (by omega), upd_ne (by omega), upd_same]
    have f14 : upd (upd (upd (upd (upd (upd (upd (σ1 168) 11 0) 12 0) 13 0) 14 0) 15 0) 17 0) 18 0 14 = 0 := by rw [upd_ne (by omega), upd_ne (by omega), upd_ne (by omega), upd_same]
    have f15 : upd (upd (upd (upd (upd (upd (upd (σ1 168) 11 0) 12 0) 13 0) 14 0) 15 0) 17 0) 18 0 15 = 0 := by rw [upd_ne (by omega), upd_ne (by omega), upd_same]
    have f17 : upd (upd (upd (upd (upd (upd (upd (σ1 168) 11 0) 12 0) 13 0) 14 0) 15 0) 17 0) 18 0 17 = 0 := by rw [upd_ne (by omega), upd_same]
    have f18 : upd (upd (upd (upd (upd (upd (upd (σ1 168) 11 0) 12 0) 13 0) 14 0) 15 0) 17 0) 18 0 18 = 0 := upd_same
    generalize upd (upd (upd (upd (upd (upd (upd (σ1 168) 11 0) 12 0) 13 0) 14 0) 15 0) 17 0) 18 0 = f at f0 f11 f12 f13 f14 f15 f17 f18
    refine hM (su σ1 168 f) ⟨by rw [su_same, f0 4 (by omega)]; exact zm, fun i hi => by rw [su_ne (by omega), e 171 (by omega)]; exact (hTT i hi).1⟩ (by rw [su_same]; exact f11) (by rw [su_same]; exact f12) (by rw [su_same]; exact f13) (by rw [su_same]; exact f14) (by rw [su_same]; exact f15) (by rw [su_same]; exact f17) (by rw [su_same]; exact f18) _ (fun υ g1 t1 n1 => ?_)
    have E1 : ∀ k, k ≠ 168 → k ≠ 176 → υ k = σ1 k := fun k a1 a2 => (g1.1 k a1 a2).trans (su_ne a1)
    have E8 : ∀ j, j < 10 ∨ 18 < j → υ 168 j = σ 168 j := fun j hj => (g1.2 j hj).trans (by rw [su_same]; exact f0 j hj)
    have e92 : υ 169 2 = σ 169 2 := by rw [E1 169 (by omega) (by omega), e 169 (by omega)]
    have gd : (¬ p1 < 0 ∧ ¬ σ 7 7 ≤ p1) ↔ (¬ p1 < 0 ∧ ¬ υ 169 2 - 1 < p1) := by rw [e92]; exact hs p1
    have IV : ∀ y : Int32, ((¬ p1 < 0 ∧ ¬ σ 7 7 ≤ p1) → ok = false) → Inv (su (su υ 168 (upd (υ 168) 13 y)) 168 (upd (upd (υ 168) 13 y) 4 0)) := fun y hb => by
      rw [su_su]
      exact R1 _ (fun k a1 a2 => by rw [su_ne a1]; exact E1 k a1 a2) (fun j a1 a2 => by rw [su_same, upd_ne a2, upd_ne (by omega)]; exact E8 j (by omega)) (by rw [su_same, upd_same]) hb
    have bad : ∀ y : Int32, ¬ (¬ p1 < 0 ∧ ¬ υ 169 2 - 1 < p1) → ∃ r', some (Value.int (-1000000001)) = some (Value.int r') ∧ r = r' ∧ Inv (su (su υ 168 (upd (υ 168) 13 y)) 168 (upd (upd (υ 168) 13 y) 4 0)) := fun y c => ⟨_, rfl, Rb (fun z => c (gd.mp z)), IV y (fun z => absurd (gd.mp z) c)⟩
    have flt : ok = false → ∀ y : Int32, (¬ p1 < 0 ∧ ¬ υ 169 2 - 1 < p1) → ∃ r', some (Value.int (-100 - υ 168 10)) = some (Value.int r') ∧ r = r' ∧ Inv (su (su υ 168 (upd (υ 168) 13 y)) 168 (upd (upd (υ 168) 13 y) 4 0)) := fun z y c => ⟨_, rfl, by rw [(n1 z).2]; exact R0 (gd.mpr c) z, IV y (fun _ => z)⟩
    cases z : ok with
    | false =>
      rcases (n1 z).1 with w | w
      · exact ⟨fun _ => ⟨flt z 1, bad 1⟩, fun c => absurd c w⟩
      · exact ⟨fun _ => ⟨flt z 1, bad 1⟩, fun _ => ⟨fun c => absurd c w, fun _ => ⟨flt z 1, bad 1⟩⟩⟩
    | true =>
      obtain ⟨b13, b12, b17, bc, b18⟩ := t1 z
      obtain ⟨l1, l2, l3, _⟩ := hok z
      refine ⟨fun c => absurd b13 c, fun _ => ⟨fun _ => ⟨fun c => ?_, bad 0⟩, fun c => absurd b12 c⟩⟩
      obtain ⟨rr, R2⟩ := R2 (gd.mpr c) z
      have cg := gd.mpr c
      rw [xs] at cg
      obtain ⟨s, hss, rfl⟩ := rngL cg.1 cg.2 (by omega)
      rw [su_su]
      generalize hF : upd (upd (υ 168) 13 0) 4 0 = F
      have F17 : F 17 = nI (c0.length + c1.length + c2.length + 3) := by rw [← hF, upd_ne (by omega), upd_ne (by omega)]; exact b17
      have F18 : F 18 = nI pp := by rw [← hF, upd_ne (by omega), upd_ne (by omega)]; exact b18
      have F4 : F 4 = 0 := by rw [← hF, upd_same]
      have Fj : ∀ j, j < 10 → j ≠ 4 → F j = σ 168 j := fun j a1 a2 => by rw [← hF, upd_ne a2, upd_ne (by omega)]; exact E8 j (by omega)
      refine l_leaseM (l := c0.map tr ++ 300000 :: (c1.map tr ++ 300000 :: (c2.map tr ++ [300000]))) (N := c0.length + c1.length + c2.length + 3) (by omega) (show s < 12 by omega) (by rw [su_same]; exact F17) (fun j hj => by rw [su_ne (by omega)]; exact bc j hj) _ (fun h i1 i2 i3 => ⟨_, rfl, ?_, R2 _ (fun k a1 a2 a3 => ?_) (fun j a1 a2 => ?_) ?_ (fun s' es hs' => ?_)⟩)
      · rw [su_same, F18]; exact rr
      · rw [su_ne a3, su_ne a1]; exact E1 k a1 a2
      · rw [su_ne (by omega), su_same]; exact Fj j a1 a2
      · rw [su_ne (by omega), su_same]; exact F4
      · have : s' = s := (nI_inj es (by omega) (by omega)).symm
        subst this
        refine ⟨fun j a1 a2 => ?_, ?_, fun j hj => ?_⟩
        · rw [su_same, i1 j a1 a2, su_ne (by omega), E1 169 (by omega) (by omega), e 169 (by omega)]
        · rw [su_same, i2, su_same]; exact F18
        · rw [su_same]; exact i3 j hj
  refine mI ok_X11_lease.1 rfl rfl rfl (s_X11_lease_0 g σ _ p1 ⟨fun c => ?_, fun c => ⟨_, rfl, MR _ _ (fun k hk => su_ne (by omega)) (fun z => absurd z c) (fun _ => rfl) (fun υ E1 E8 E4 _ => hI.tp (fun k hk => ?_) ?_ E4 E8) (fun z => absurd z c)⟩⟩)
  rotate_left
  · rw [E1 k (by omega) (by omega), su_ne (by omega)]
  · rw [E1 107 (by omega) (by omega), su_same, upd_same]
  refine mI ok_X8_findFault.1 rfl rfl rfl (s_X8_findFault_0 g σ _ ?_)
  rw [su_su, su_su, su_su]
  generalize hf : upd (upd (upd (upd (σ 107) 6 0) 5 0) 3 0) 7 (-1) = f
  refine hX (su σ 107 f) ⟨?_, fun i hi => ?_⟩ ?_ ?_ ?_ ?_ _ (fun τ' g1 t1 => ⟨_, rfl, ?_⟩)
  · rw [su_same, ← hf, upd_ne (by omega), upd_ne (by omega), upd_ne (by omega), upd_ne (by omega)]; exact zx
  · rw [su_ne (by omega)]; exact (hTT i hi).2
  · rw [su_same, ← hf, upd_ne (by omega), upd_ne (by omega), upd_ne (by omega), upd_same]
  · rw [su_same, ← hf, upd_same]
  · rw [su_same, ← hf, upd_ne (by omega), upd_ne (by omega), upd_same]
  · rw [su_same, ← hf, upd_ne (by omega), upd_same]
  have E : ∀ k, k ≠ 107 → k ≠ 108 → k ≠ 109 → τ' k = σ k := fun k a1 a2 a3 => (g1 k a1 a2 a3).trans (su_ne a1)
  cases z : ok with
  | false =>
    rw [if_neg (by decide)]
    refine ⟨fun y => absurd y (nI_neNONE (by omega)), fun _ => ⟨_, rfl, MR _ _ (fun k hk => by rw [su_ne (by omega)]; exact E k (by omega) (by omega) (by omega)) (fun _ _ => rfl) (fun y => absurd c y) (fun υ E1 E8 E4 _ => hI.tp (fun k hk => ?_) ?_ E4 E8) (fun _ y => by rw [z] at y; cases y)⟩⟩
    · rw [E1 k (by omega) (by omega), su_ne (by omega)]; exact E k (by omega) (by omega) (by omega)
    · rw [E1 107 (by omega) (by omega), su_same, upd_same]
  | true =>
    rw [if_pos rfl]
    obtain ⟨u1, u2, u3, u4, u5⟩ := t1 z
    obtain ⟨l1, l2, l3, l4, l5, l6⟩ := hok z
    refine ⟨fun _ => ?_, fun y => absurd rfl y⟩
    have cg := c
    rw [xs] at cg
    obtain ⟨s, hss, rfl⟩ := rngL cg.1 cg.2 (by omega)
    refine mV ok_X4_store.1 rfl rfl rfl (s_X4_store_0 g _ _ (nI s) ⟨inN (by omega) (by omega), rfl, _, rfl, ?_⟩)
    rw [nI_clamp (by omega)]
    generalize hτ2 : su τ' 107 (upd (τ' 107) 0 0) = τ2
    have E2 : ∀ k, k ≠ 107 → k ≠ 108 → k ≠ 109 → τ2 k = σ k := fun k a1 a2 a3 => by rw [← hτ2, su_ne a1]; exact E k a1 a2 a3
    have v108 : ∀ j, j < c0.length + c1.length + c2.length → τ2 108 j = (c0 ++ (c1 ++ c2)).getD j 0 := fun j hj => by rw [← hτ2, su_ne (by omega)]; exact u2 j hj
    have v9 : τ2 109 0 = nI c0.length ∧ τ2 109 1 = nI (c0.length + c1.length) ∧ τ2 109 2 = nI (c0.length + c1.length + c2.length) := by rw [← hτ2, su_ne (by omega)]; exact ⟨u3, u4, u5⟩
    have v107 : τ2 107 3 = nI pp ∧ τ2 107 0 = 0 := by rw [← hτ2, su_same, upd_ne (by omega), upd_same]; exact ⟨u1, rfl⟩
    have e109 : su τ2 (28 + s) (va_cpy (τ2 108) (τ2 (28 + s)) 0 0 132) 109 = τ2 109 := su_ne (by omega)
    have e41 : su τ2 (28 + s) (va_cpy (τ2 108) (τ2 (28 + s)) 0 0 132) (41 + s) = τ2 (41 + s) := su_ne (by omega)
    rw [e109, e41]
    have e26 : su (su τ2 (28 + s) (va_cpy (τ2 108) (τ2 (28 + s)) 0 0 132)) (41 + s) (va_cpy (τ2 109) (τ2 (41 + s)) 0 0 3) 26 = σ 26 := by rw [su_ne (by omega), su_ne (by omega)]; exact E2 26 (by omega) (by omega) (by omega)
    rw [e26]
    generalize hτ3 : su (su (su τ2 (28 + s) (va_cpy (τ2 108) (τ2 (28 + s)) 0 0 132)) (41 + s) (va_cpy (τ2 109) (τ2 (41 + s)) 0 0 3)) 26 (upd (σ 26) s (vp_nar .boolean 1)) = τ3
    have E3 : ∀ k, k ≠ 26 → k ≠ 28 + s → k ≠ 41 + s → τ3 k = τ2 k := fun k a1 a2 a3 => by rw [← hτ3, su_ne a1, su_ne a3, su_ne a2]
    have w26 : τ3 26 = upd (σ 26) s 1 := by rw [← hτ3, su_same]; rfl
    have w28 : ∀ j, j < 132 → τ3 (28 + s) j = τ2 108 j := fun j hj => by rw [← hτ3, su_ne (by omega), su_ne (by omega), su_same, pk_cpy_in (by omega) (by omega), show 0 + (j - 0) = j by omega]
    have w41 : ∀ j, j < 3 → τ3 (41 + s) j = τ2 109 j := fun j hj => by rw [← hτ3, su_ne (by omega), su_same, pk_cpy_in (by omega) (by omega), show 0 + (j - 0) = j by omega]
    have w3 : τ3 107 3 = nI pp := by rw [E3 107 (by omega) (by omega) (by omega)]; exact v107.1
    rw [w3]
    refine MR _ τ3 (fun k hk => by rw [E3 k (by omega) (by omega) (by omega)]; exact E2 k (by omega) (by omega) (by omega)) (fun _ y => by rw [z] at y; cases y) (fun y => absurd c y) (fun υ _ _ _ y => by have := y c; rw [z] at this; cases this) (fun _ _ => ⟨rfl, fun υ E1 E8 E4 H => ?_⟩)
    obtain ⟨H1, H2, H3⟩ := H s rfl hss
    have EE : ∀ k, k ≠ 26 → k ≠ 28 + s → k ≠ 41 + s → k ≠ 107 → k ≠ 108 → k ≠ 109 → k ≠ 168 → k ≠ 169 → k ≠ 176 → υ k = σ k := fun k a1 a2 a3 a4 a5 a6 a7 a8 a9 => by rw [E1 k a7 a9 a8, E3 k a1 a2 a3]; exact E2 k a4 a5 a6
    have key : RelN t nd ns nm nl lv (fun k => υ (1 + k)) (υ 169) := by
      refine hRel.ls hss (fun k hk a1 a2 a3 => EE (1 + k) (by omega) (by omega) (by omega) (by omega) (by omega) (by omega) (by omega) (by omega) (by omega)) ?_ H1 l2 l3 H2 ?_
      · show υ 26 = _
        rw [E1 26 (by omega) (by omega) (by omega)]; exact w26
      · show LC (υ (1 + (27 + s))) (υ (1 + (40 + s))) _
        rw [show 1 + (27 + s) = 28 + s by omega, show 1 + (40 + s) = 41 + s by omega, E1 (28 + s) (by omega) (by omega) (by omega), E1 (41 + s) (by omega) (by omega) (by omega)]
        exact ⟨c0, c1, c2, l1, by rw [w41 0 (by omega)]; exact v9.1, by rw [w41 1 (by omega)]; exact v9.2.1, by rw [w41 2 (by omega)]; exact v9.2.2, fun j hj => by rw [w28 j (by omega)]; exact v108 j hj, H3, l4, l5, l6⟩
    have E' : ∀ k, (k = 0 ∨ (54 ≤ k ∧ k < 107) ∨ (113 ≤ k ∧ k < 116) ∨ k = 167 ∨ (169 < k ∧ k < 175)) → υ k = σ k := fun k hk => EE k (by omega) (by omega) (by omega) (by omega) (by omega) (by omega) (by omega) (by omega) (by omega)
    refine ⟨⟨t, nd, ns, nm, nl, lv, key⟩, ?_, ?_, ?_, ?_⟩
    · rw [E' 0 (by omega), E8 2 (by omega) (by omega), E' 170 (by omega)]
      exact hi.cg (fun k hk => E' _ (by omega))
    · rw [E4, E1 107 (by omega) (by omega) (by omega), E3 107 (by omega) (by omega) (by omega), v107.2]
      exact ⟨0, by omega, rfl, rfl, fun i hi => absurd hi (by omega)⟩
    · rw [E' 0 (by omega), E8 6 (by omega) (by omega), E' 167 (by omega), E' 172 (by omega)]; exact hw
    · rw [E' 115 (by omega), E' 173 (by omega), E' 113 (by omega), E' 114 (by omega), E' 174 (by omega)]; exact hsh
end OPS17
