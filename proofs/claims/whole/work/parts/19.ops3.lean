/-! OPERATIONS: takings, shop -/
section OPS3
variable {g : vt_GT} {σ : vt_Sg} {p1 p2 p3 p4 p5 : Int32}
def mx0 (s : Int32) : Int32 := if 0 < s then s else 0
/-- what line l brings to shop a's takings for month b as known in month k -/
def tkv (l1 l2 l3 l4 l5 : Nat → Int32) (a b k : Int32) (l : Nat) : Int32 := if l1 l = a then (if l2 l = b then (if k < l4 l then 0 else if l5 l = -1000000005 then l3 l else if k < l5 l then l3 l else 0) else 0) else 0
theorem sm_0 {i : Nat} {F : Nat → Int32} (h : F i = 0) : sm (i + 1) F = sm i F := by
  show sm i F + F i = _
  rw [h, Int32.add_zero]
theorem c_X5_sum {nl : Nat} (hl : σ 19 5 = nI nl) (hb : nl ≤ 100) (Φ : Int32 → vt_Sg → Prop) (h : Φ (mx0 (sm nl (tkv (σ 20) (σ 21) (σ 22) (σ 23) (σ 24) p1 p2 p3))) σ) : vt_Mi g 1 D_X5_sum [.ref (g.2.1 19), .int p1, .int p2, .int p3] σ Φ := by
  refine mI ok_X5_sum.1 rfl rfl rfl (s_X5_sum_0 g σ _ p1 p2 p3 ?_)
  generalize hF : tkv (σ 20) (σ 21) (σ 22) (σ 23) (σ 24) p1 p2 p3 = F at h
  refine lpD nl (fun i => TT g (vt_R 1) 0 0 D_X5_sum none 6 [some (.ref (g.2.1 19)), some (.int p1), some (.int p2), some (.int p3), some (.int (sm i F)), some (.int (nI i))] [] σ _) ?_ ?_
  · exact s_X5_sum_6 g σ _ p1 p2 p3 _ _ ⟨fun _ => ⟨_, rfl, h⟩, fun c => absurd (by rw [hl]; exact nI_le (Nat.le_refl _) (by omega)) c⟩
  · intro i hi ih
    refine s_X5_sum_6 g σ _ p1 p2 p3 _ _ ⟨fun c => absurd (by rw [hl] at c; exact c) (nI_ge hi (by omega)), fun _ => ⟨inN (by omega) (by omega), ?_⟩⟩
    rw [nI_clamp (by omega), nI_1]
    have fi : F i = tkv (σ 20) (σ 21) (σ 22) (σ 23) (σ 24) p1 p2 p3 i := by rw [hF]
    refine ⟨fun a1 => ?_, fun a1 => ⟨fun a2 => ?_, fun a2 => ⟨fun a3 => ?_, fun a3 => ?_⟩⟩⟩
    · rw [sm_0 (by rw [fi, tkv, if_neg a1])] at ih; exact ih
    · rw [sm_0 (by rw [fi, tkv, if_pos a1, if_neg a2])] at ih; exact ih
    · have e : F i = σ 22 i := by
        rw [fi, tkv, if_pos a1, if_pos a2, if_neg a3.1]
        rcases a3.2 with q | q
        · rw [if_pos q]
        · by_cases z : σ 24 i = -1000000005
          · rw [if_pos z]
          · rw [if_neg z, if_pos q]
      have e2 : sm (i + 1) F = sm i F + σ 22 i := by rw [← e]; rfl
      rw [e2] at ih; exact ih
    · have e : F i = 0 := by
        rw [fi, tkv, if_pos a1, if_pos a2]
        by_cases z : p3 < σ 23 i
        · rw [if_pos z]
        · rw [if_neg z, if_neg (fun q => a3 ⟨z, Or.inl q⟩), if_neg (fun q => a3 ⟨z, Or.inr q⟩)]
      rw [sm_0 e] at ih; exact ih
theorem c_X12_taken {nl : Nat} {l1 l2 l3 l4 l5 : Nat → Int32} {ls lm lt : Nat → Nat} {lw : Nat → Option Nat} (hl : σ 169 4 = nI nl) (hb : nl ≤ 100) (hln : A_ln nl l1 l2 l3 l4 l5 (σ 169) ls lm lt lw) (h0 : ¬ p3 < 0) (Φ : Int32 → vt_Sg → Prop) (h : Φ (mx0 (sm nl (tkv l1 l2 l3 l4 l5 p1 p2 p3))) σ) : vt_Mi g 1 D_X12_taken [.ref (g.2.1 168), .int p1, .int p2, .int p3] σ Φ := by
  refine mI ok_X12_taken.1 rfl rfl rfl (s_X12_taken_0 g σ _ p1 p2 p3 ?_)
  generalize hF : tkv l1 l2 l3 l4 l5 p1 p2 p3 = F at h
  refine lpD nl (fun i => TT g (vt_R 1) 0 0 D_X12_taken none 6 [some (.ref (g.2.1 168)), some (.int p1), some (.int p2), some (.int p3), some (.int (sm i F)), some (.int (nI i)), none, none] [] σ _) ?_ ?_
  · exact s_X12_taken_6 g σ _ p1 p2 p3 _ _ ⟨fun _ => ⟨_, rfl, h⟩, fun c => absurd (by rw [hl]; exact nI_le (Nat.le_refl _) (by omega)) c⟩
  · intro i hi ih
    obtain ⟨a1, a2, a3, a4, a5, a6, a7, a8, a9, a10⟩ := hln i hi
    have e1 : (340 : Int32) + 2 * nI i + 1 = nI (341 + 2 * i) := (lin1 340 2 i).trans (congrArg nI (by omega))
    have e2 : (340 : Int32) + 2 * nI i = nI (340 + 2 * i) := lin 340 2 i
    obtain ⟨d1, d2, d3, d4⟩ := ln_dec a7 a8 a9 (opC_le a10) a6
    have fi : F i = tkv l1 l2 l3 l4 l5 p1 p2 p3 i := by rw [hF]
    refine s_X12_taken_6 g σ _ p1 p2 p3 _ _ ⟨fun c => absurd (by rw [hl] at c; exact c) (nI_ge hi (by omega)), fun _ => ?_⟩
    rw [e1, e2, nI_clamp (by omega), nI_clamp (by omega), d1, d2, d3, d4, nI_1, Int32.add_zero, a5]
    refine ⟨inN (by omega) (by omega), fun b1 => ?_, fun b1 => ⟨fun b2 => ?_, fun b2 => ⟨fun b3 => ?_, fun b3 => ⟨inN (by omega) (by omega), fun b4 => ⟨inN (by omega) (by omega), ?_⟩, fun b4 => ⟨fun b5 => ?_, fun b5 => ⟨inN (by omega) (by omega), ?_⟩⟩⟩⟩⟩⟩
    · rw [sm_0 (by rw [fi, tkv, a1, if_neg b1])] at ih; exact ih
    · rw [sm_0 (by rw [fi, tkv, a1, if_pos b1, a2, if_neg b2])] at ih; exact ih
    · rw [sm_0 (by rw [fi, tkv, a1, if_pos b1, a2, if_pos b2, a3, if_pos b3])] at ih; exact ih
    · have z := ((gone_neg a10).1).mp b4
      have e : sm (i + 1) F = sm i F + l3 i := by
        show sm i F + F i = _
        rw [fi, tkv, a1, if_pos b1, a2, if_pos b2, a3, if_neg b3, a4, if_pos ((opN_none a10).mpr z)]
      rw [e] at ih; exact ih
    all_goals
      have z : ¬ lw i = none := fun q => b4 (((gone_neg a10).1).mpr q)
      obtain ⟨w, hw⟩ := Option.ne_none_iff_exists'.mp z
      have hwb := a10 w hw
      rw [(gone_neg a10).2 w hw] at b5
      have e4 : l5 i = nI w := by rw [a4, hw]; rfl
    · have e : F i = 0 := by
        rw [fi, tkv, a1, if_pos b1, a2, if_pos b2, a3, if_neg b3, if_neg (by rw [e4]; exact nI_neNONE (by omega)), e4, if_neg (Int32.not_lt.mpr b5)]
      rw [sm_0 e] at ih; exact ih
    · have e : sm (i + 1) F = sm i F + l3 i := by
        show sm i F + F i = _
        rw [fi, tkv, a1, if_pos b1, a2, if_pos b2, a3, if_neg b3, if_neg (by rw [e4]; exact nI_neNONE (by omega)), e4, if_pos (Int32.not_le.mp b5)]
      rw [e] at ih; exact ih
theorem op_takings (hI : Inv σ) : vt_Mi g 2 D_X11_takings [.ref (g.2.1 0), .int p1, .int p2, .int p3] σ (fun r σ1 => vt_Mi g 2 D_X12_takings [.ref (g.2.1 168), .int p1, .int p2, .int p3] σ1 (fun r' σ2 => r = r' ∧ Inv σ2)) := by
  obtain ⟨⟨t, nd, ns, nm, nl, lv, hN, hF, hR, hD, hS, hM, hL, hE, hV⟩, h2⟩ := id hI
  obtain ⟨⟨bt, bd, bs, bm, bl, bv⟩, ⟨xt, xv, xd, xs, xm, xl⟩, ⟨yt, yd, ys, ym, yl, yv⟩⟩ := id hN
  have xt : σ 1 9 = nI t := xt
  have xv : σ 1 8 = nI lv := xv
  have xd : σ 4 2 = nI nd := xd
  have xs : σ 7 7 = nI ns := xs
  have xm : σ 15 3 = nI nm := xm
  have xl : σ 19 5 = nI nl := xl
  have hs : ∀ a : Int32, (¬ a < 0 ∧ ¬ σ 7 7 ≤ a) ↔ (¬ a < 0 ∧ ¬ σ 169 2 - 1 < a) := fun a => by rw [xs, ys]; exact shop_has (by omega)
  have ht : σ 1 9 = σ 169 0 := xt.trans yt.symm
  obtain ⟨ls, lm, lt, lw, hln⟩ := id hL
  refine mI ok_X11_takings.1 rfl rfl rfl (s_X11_takings_0 g σ _ p1 p2 p3 ⟨fun c1 => ⟨fun c2 => ⟨fun c3 => ?_, fun c3 => ?_⟩, fun c2 => ?_⟩, fun c1 => ?_⟩)
  · have c2' := c2
    have c3' := c3
    rw [ht] at c2' c3'
    refine c_X5_sum xl bl _ ⟨_, rfl, mI ok_X12_takings.1 rfl rfl rfl (s_X12_takings_0 g _ _ p1 p2 p3 ⟨fun _ => ⟨fun _ => ⟨fun _ => ?_, fun c => absurd c3' c⟩, fun c => absurd c2' c⟩, fun c => absurd ((hs p1).mp c1) c⟩)⟩
    exact c_X12_taken yl bl hln c3.1 _ ⟨_, rfl, rfl, hI⟩
  · rw [ht] at c2 c3
    exact ⟨_, rfl, mI ok_X12_takings.1 rfl rfl rfl (s_X12_takings_0 g _ _ p1 p2 p3 ⟨fun _ => ⟨fun _ => ⟨fun c => absurd c c3, fun _ => ⟨_, rfl, rfl, hI⟩⟩, fun c => absurd c2 c⟩, fun c => absurd ((hs p1).mp c1) c⟩)⟩
  · rw [ht] at c2
    exact ⟨_, rfl, mI ok_X12_takings.1 rfl rfl rfl (s_X12_takings_0 g _ _ p1 p2 p3 ⟨fun _ => ⟨fun c => absurd c c2, fun _ => ⟨_, rfl, rfl, hI⟩⟩, fun c => absurd ((hs p1).mp c1) c⟩)⟩
  · exact ⟨_, rfl, mI ok_X12_takings.1 rfl rfl rfl (s_X12_takings_0 g _ _ p1 p2 p3 ⟨fun c => absurd ((hs p1).mpr c) c1, fun _ => ⟨_, rfl, rfl, hI⟩⟩)⟩
/-- the words NEAR and SPEND, asked in the component's way and in the reference's -/
theorem words_ok {w : Int32} (hz : ¬ (w - w / 100 * 100) = 0) : (¬ w < (1 : Int32) ∧ ¬ (1199 : Int32) < w) ↔ (¬ w < 0 ∧ ¬ 11 < w / 100) := by
  constructor
  · rintro ⟨h1, h2⟩
    have h0 : ¬ w < 0 := fun q => h1 (Int32.lt_trans q (by decide))
    obtain ⟨j, hj, rfl⟩ := rng h0 h2 (n := 1199) rfl
    refine ⟨h0, ?_⟩
    have e : nI j / 100 = nI (j / 100) := pk_div (d := 100) (by omega) (by omega) (by omega)
    rw [e]
    exact nI_nlt (b := j / 100) (a := 11) (by omega) (by omega)
  · rintro ⟨h0, h1⟩
    obtain ⟨j, hj, rfl⟩ := nI_of h0
    have e : nI j / 100 = nI (j / 100) := pk_div (d := 100) (by omega) (by omega) (by omega)
    have e2 : nI j - nI j / 100 * 100 = nI (j % 100) := pk_rem (d := 100) (by omega) (by omega) (by omega)
    rw [e] at h1
    rw [e2] at hz
    have h3 : j / 100 ≤ 11 := Nat.le_of_not_lt fun q => h1 (show nI 11 < nI (j / 100) from nI_lt q (by omega))
    have h4 : j % 100 ≠ 0 := fun q => hz (by rw [q]; rfl)
    exact ⟨fun q => absurd (show nI j < nI 1 from q) (nI_nlt (by omega) (by omega)), fun q => absurd (show nI 1199 < nI j from q) (nI_nlt (by omega) (by omega))⟩
theorem shop_row {ns : Nat} (hs : ns < 12) : ∃ n' : Nat → Int32, n' = (upd (upd (upd (upd (upd (upd (upd (upd (upd (σ 169) (30 + 8 * ns + 0) p1) (30 + 8 * ns + 1) p2) (30 + 8 * ns + 2) (p3 / 1000)) (30 + 8 * ns + 4) (p3 - p3 / 1000 * 1000)) (30 + 8 * ns + 5) (p4 / 100)) (30 + 8 * ns + 3) (p4 - p4 / 100 * 100)) (30 + 8 * ns + 6) p5) (30 + 8 * ns + 7) 0) 2 (nI (ns + 1))) ∧ (∀ j, j ≠ 2 → (j < 30 + 8 * ns ∨ 38 + 8 * ns ≤ j) → n' j = σ 169 j) ∧ n' 2 = nI (ns + 1) ∧ n' (30 + 8 * ns) = p1 ∧ n' (31 + 8 * ns) = p2 ∧ n' (32 + 8 * ns) = p3 / 1000 ∧ n' (33 + 8 * ns) = p4 - p4 / 100 * 100 ∧ n' (34 + 8 * ns) = p3 - p3 / 1000 * 1000 ∧ n' (35 + 8 * ns) = p4 / 100 ∧ n' (36 + 8 * ns) = p5 ∧ n' (37 + 8 * ns) = 0 := by
  refine ⟨_, rfl, fun j h1 h2 => ?_, upd_same, ?_, ?_, ?_, ?_, ?_, ?_, ?_, ?_⟩
  · simp (disch := omega) only [upd_ne]
  · simp (disch := omega) only [upd_ne]; rw [show 30 + 8 * ns = 30 + 8 * ns + 0 by omega, upd_same]
  · simp (disch := omega) only [upd_ne]; rw [show 31 + 8 * ns = 30 + 8 * ns + 1 by omega, upd_same]
  · simp (disch := omega) only [upd_ne]; rw [show 32 + 8 * ns = 30 + 8 * ns + 2 by omega, upd_same]
  · simp (disch := omega) only [upd_ne]; rw [show 33 + 8 * ns = 30 + 8 * ns + 3 by omega, upd_same]
  · simp (disch := omega) only [upd_ne]; rw [show 34 + 8 * ns = 30 + 8 * ns + 4 by omega, upd_same]
  · simp (disch := omega) only [upd_ne]; rw [show 35 + 8 * ns = 30 + 8 * ns + 5 by omega, upd_same]
  · simp (disch := omega) only [upd_ne]; rw [show 36 + 8 * ns = 30 + 8 * ns + 6 by omega, upd_same]
  · simp (disch := omega) only [upd_ne]; rw [show 37 + 8 * ns = 30 + 8 * ns + 7 by omega, upd_same]
theorem op_shop (hI : Inv σ) : vt_Mi g 1 D_X11_shop [.ref (g.2.1 0), .int p1, .int p2, .int p3, .int p4, .int p5] σ (fun r σ1 => vt_Mi g 1 D_X12_shop [.ref (g.2.1 168), .int p1, .int p2, .int p3, .int p4, .int p5] σ1 (fun r' σ2 => r = r' ∧ Inv σ2)) := by
  obtain ⟨⟨t, nd, ns, nm, nl, lv, hN, hF, hR, hD, hS, hM, hL, hE, hV⟩, h2⟩ := id hI
  obtain ⟨⟨bt, bd, bs, bm, bl, bv⟩, ⟨xt, xv, xd, xs, xm, xl⟩, ⟨yt, yd, ys, ym, yl, yv⟩⟩ := id hN
  have xt : σ 1 9 = nI t := xt
  have xv : σ 1 8 = nI lv := xv
  have xd : σ 4 2 = nI nd := xd
  have xs : σ 7 7 = nI ns := xs
  have xm : σ 15 3 = nI nm := xm
  have xl : σ 19 5 = nI nl := xl
  have bad : ∀ v : Int32, v = -1000000001 → ((¬ p1 < (0 : Int32) ∧ ¬ (3 : Int32) < p1) → (¬ p2 < (0 : Int32) ∧ ¬ (7 : Int32) < p2) → (¬ p3 < (0 : Int32) ∧ ¬ (99999 : Int32) < p3) → ¬ (p4 - p4 / 100 * 100) = 0 → (¬ p4 < (1 : Int32) ∧ ¬ (1199 : Int32) < p4) → ¬ (¬ p5 < (1 : Int32) ∧ ¬ (999 : Int32) < p5)) → ∃ r : Int32, some (Value.int v) = some (.int r) ∧ vt_Mi g 1 D_X12_shop [.ref (g.2.1 168), .int p1, .int p2, .int p3, .int p4, .int p5] σ (fun r' σ2 => r = r' ∧ Inv σ2) := by
    intro v hv hb
    subst hv
    exact ⟨_, rfl, mI ok_X12_shop.1 rfl rfl rfl (s_X12_shop_0 g _ _ p1 p2 p3 p4 p5 ⟨fun c1 => ⟨fun c2 => ⟨fun c3 => ⟨fun _ => ⟨_, rfl, rfl, hI⟩, fun c4 => ⟨fun _ => ⟨_, rfl, rfl, hI⟩, fun c5 => ⟨fun _ => ⟨_, rfl, rfl, hI⟩, fun c6 => ⟨fun c7 => absurd c7 (hb c1 c2 c3 c6 ((words_ok c6).mpr ⟨c4, c5⟩)), fun _ => ⟨_, rfl, rfl, hI⟩⟩⟩⟩⟩, fun _ => ⟨_, rfl, rfl, hI⟩⟩, fun _ => ⟨_, rfl, rfl, hI⟩⟩, fun _ => ⟨_, rfl, rfl, hI⟩⟩)⟩
  refine mI ok_X11_shop.1 rfl rfl rfl (s_X11_shop_0 g σ _ p1 p2 p3 p4 p5 ⟨fun c1 => ⟨fun c2 => ⟨fun c3 => ⟨fun c4 => ⟨fun c6 => bad _ rfl (fun _ _ _ q => absurd c6 q), fun c6 => ⟨fun c7 => ⟨fun c8 => ?_, fun c8 => ?_⟩, fun c7 => bad _ rfl (fun _ _ _ _ _ => c7)⟩⟩, fun c4 => bad _ rfl (fun _ _ _ _ q => absurd q c4)⟩, fun c3 => bad _ rfl (fun _ _ q => absurd q c3)⟩, fun c2 => bad _ rfl (fun _ q => absurd q c2)⟩, fun c1 => bad _ rfl (fun q => absurd q c1)⟩)
  · rw [xs] at c8
    have hs8 : ns < 12 := (nI_ltI (b := 12) (by omega) (by omega)).mp c8
    have c45 := (words_ok c6).mp c4
    refine mI ok_X10_add.1 rfl rfl rfl (s_X10_add_0 g σ _ p1 p2 p3 p4 p5 ?_)
    rw [xs, nI_clamp (by omega), nI_1]
    refine ⟨inN hs8 (by omega), _, rfl, _, rfl, mI ok_X12_shop.1 rfl rfl rfl (s_X12_shop_0 g _ _ p1 p2 p3 p4 p5 ⟨fun _ => ⟨fun _ => ⟨fun _ => ⟨fun c => absurd c c45.1, fun _ => ⟨fun c => absurd c c45.2, fun _ => ⟨fun c => absurd c c6, fun _ => ⟨fun _ => ⟨fun _ => ?_, fun c => absurd (nI_inj (a := ns) (b := 12) (by rw [← ys]; exact c) (by omega) (by omega)) (by omega)⟩, fun c => absurd c7 c⟩⟩⟩⟩, fun c => absurd c3 c⟩, fun c => absurd c2 c⟩, fun c => absurd c1 c⟩)⟩
    have e0 : su (su (su (su (su (su (su (su σ 8 (upd (σ 8) ns p1)) 9 (upd (σ 9) ns p2)) 10 (upd (σ 10) ns (p3 / 1000))) 11 (upd (σ 11) ns (p3 - p3 / 1000 * 1000))) 12 (upd (σ 12) ns (p4 / 100))) 13 (upd (σ 13) ns (p4 - p4 / 100 * 100))) 14 (upd (σ 14) ns p5)) 7 (upd (σ 7) 7 (nI (ns + 1))) 169 = σ 169 := rfl
    have f0 : (30 : Int32) + 8 * nI ns + 0 = nI (30 + 8 * ns + 0) := shop_ix (f := 0)
    have f1 : (30 : Int32) + 8 * nI ns + 1 = nI (30 + 8 * ns + 1) := shop_ix (f := 1)
    have f2 : (30 : Int32) + 8 * nI ns + 2 = nI (30 + 8 * ns + 2) := shop_ix (f := 2)
    have f3 : (30 : Int32) + 8 * nI ns + 3 = nI (30 + 8 * ns + 3) := shop_ix (f := 3)
    have f4 : (30 : Int32) + 8 * nI ns + 4 = nI (30 + 8 * ns + 4) := shop_ix (f := 4)
    have f5 : (30 : Int32) + 8 * nI ns + 5 = nI (30 + 8 * ns + 5) := shop_ix (f := 5)
    have f6 : (30 : Int32) + 8 * nI ns + 6 = nI (30 + 8 * ns + 6) := shop_ix (f := 6)
    have f7 : (30 : Int32) + 8 * nI ns + 7 = nI (30 + 8 * ns + 7) := shop_ix (f := 7)
    simp only [e0, ys, f0, f1, f2, f3, f4, f5, f6, f7]
    simp (disch := omega) only [nI_clamp, upd_ne, ys, su_su, nI_1]
    obtain ⟨n', en, hn, q2, r0, r1, r2, r3, r4, r5, r6, r7⟩ := shop_row (σ := σ) (p1 := p1) (p2 := p2) (p3 := p3) (p4 := p4) (p5 := p5) hs8
    rw [← en]
    refine ⟨inN (by omega) (by omega), inN (by omega) (by omega), inN (by omega) (by omega), inN (by omega) (by omega), inN (by omega) (by omega), inN (by omega) (by omega), inN (by omega) (by omega), inN (by omega) (by omega), _, rfl, ?_, ?_⟩
    · rw [nI_pred]
    · refine ⟨⟨t, nd, ns + 1, nm, nl, lv, ⟨⟨bt, bd, by omega, bm, bl, bv⟩, ⟨xt, xv, xd, rfl, xm, xl⟩, ⟨(hn 0 (by omega) (by omega)).trans yt, (hn 1 (by omega) (by omega)).trans yd, q2, (hn 3 (by omega) (by omega)).trans ym, (hn 4 (by omega) (by omega)).trans yl, (hn 7 (by omega) (by omega)).trans yv⟩⟩, hF.fr (fun j _ _ => hn j (by omega) (by omega)), hR.fr (fun j _ _ => hn j (by omega) (by omega)), hD.fr hN.1.2.1 (fun j _ _ => hn j (by omega) (by omega)), fun s hss => ?_, (hM.fr bm (fun j _ _ => hn j (by omega) (by omega))).up (Nat.le_refl _) (by omega), hL.fr hN.1.2.2.2.2.1 (fun j _ _ => hn j (by omega) (by omega)), ⟨fun s h1 h2 => hE.1 s h1 (by omega), fun s hss => ?_⟩, hV.fr hN.1.2.2.2.2.2 (fun j _ _ => hn j (by omega) (by omega))⟩, h2.1.cg (fun k hk => by simp (disch := omega) only [su_ne]), h2.2⟩
      · by_cases e : s = ns
        · subst e
          exact ⟨r0.trans upd_same.symm, r1.trans upd_same.symm, r2.trans upd_same.symm, r3.trans upd_same.symm, r4.trans upd_same.symm, r5.trans upd_same.symm, r6.trans upd_same.symm⟩
        · obtain ⟨b0, b1, b2, b3, b4, b5, b6⟩ := hS s (by omega)
          refine ⟨(hn _ (by omega) (by omega)).trans (b0.trans (upd_ne e).symm), (hn _ (by omega) (by omega)).trans (b1.trans (upd_ne e).symm), (hn _ (by omega) (by omega)).trans (b2.trans (upd_ne e).symm), (hn _ (by omega) (by omega)).trans (b3.trans (upd_ne e).symm), (hn _ (by omega) (by omega)).trans (b4.trans (upd_ne e).symm), (hn _ (by omega) (by omega)).trans (b5.trans (upd_ne e).symm), (hn _ (by omega) (by omega)).trans (b6.trans (upd_ne e).symm)⟩
      · by_cases e : s = ns
        · subst e
          exact Or.inl ⟨hE.1 s (by omega) (by omega), r7⟩
        · rcases hE.2 s (by omega) with ⟨b1, b2⟩ | ⟨b1, ⟨q, q1, q2, q3⟩, b3⟩
          · exact Or.inl ⟨b1, (hn _ (by omega) (by omega)).trans b2⟩
          · refine Or.inr ⟨b1, ⟨q, q1, q2, (hn _ (by omega) (by omega)).trans q3⟩, ?_⟩
            have b4 := b3.fr (cd' := fun j => n' (540 + 140 * s + j)) (fun j hj => hn _ (by omega) (by omega))
            have z1 : su (su (su (su (su (su (su (su (su σ 8 (upd (σ 8) ns p1)) 9 (upd (σ 9) ns p2)) 10 (upd (σ 10) ns (p3 / 1000))) 11 (upd (σ 11) ns (p3 - p3 / 1000 * 1000))) 12 (upd (σ 12) ns (p4 / 100))) 13 (upd (σ 13) ns (p4 - p4 / 100 * 100))) 14 (upd (σ 14) ns p5)) 7 (upd (σ 7) 7 (nI (ns + 1)))) 169 n' (1 + (27 + s)) = σ (1 + (27 + s)) := by simp (disch := omega) only [su_ne]
            have z2 : su (su (su (su (su (su (su (su (su σ 8 (upd (σ 8) ns p1)) 9 (upd (σ 9) ns p2)) 10 (upd (σ 10) ns (p3 / 1000))) 11 (upd (σ 11) ns (p3 - p3 / 1000 * 1000))) 12 (upd (σ 12) ns (p4 / 100))) 13 (upd (σ 13) ns (p4 - p4 / 100 * 100))) 14 (upd (σ 14) ns p5)) 7 (upd (σ 7) 7 (nI (ns + 1)))) 169 n' (1 + (40 + s)) = σ (1 + (40 + s)) := by simp (disch := omega) only [su_ne]
            show LC (su _ 169 n' (1 + (27 + s))) (su _ 169 n' (1 + (40 + s))) _
            rw [z1, z2]
            exact b4
  · rw [xs] at c8
    have hs8 : ns = 12 := by
      have : ¬ ns < 12 := fun q => c8 (show nI ns < nI 12 from nI_lt q (by omega))
      omega
    have c45 := (words_ok c6).mp c4
    exact ⟨_, rfl, mI ok_X12_shop.1 rfl rfl rfl (s_X12_shop_0 g _ _ p1 p2 p3 p4 p5 ⟨fun _ => ⟨fun _ => ⟨fun _ => ⟨fun c => absurd c c45.1, fun _ => ⟨fun c => absurd c c45.2, fun _ => ⟨fun c => absurd c c6, fun _ => ⟨fun _ => ⟨fun c => absurd (by rw [ys, hs8]; rfl) c, fun _ => ⟨_, rfl, rfl, hI⟩⟩, fun c => absurd c7 c⟩⟩⟩⟩, fun c => absurd c3 c⟩, fun c => absurd c2 c⟩, fun c => absurd c1 c⟩)⟩
end OPS3
