/-! OPERATIONS, more of the plain ones -/
section OPS2
variable {g : vt_GT} {σ : vt_Sg} {p1 p2 p3 p4 p5 : Int32}
def upd0 {α : Type} (f : Nat → α) (k : Nat) (v : α) : Nat → α := fun j => if j = k then v else f j
theorem upd0_same {α : Type} {f : Nat → α} {k : Nat} {v : α} : upd0 f k v k = v := if_pos rfl
theorem upd0_ne {α : Type} {f : Nat → α} {k j : Nat} {v : α} (h : j ≠ k) : upd0 f k v j = f j := if_neg h
theorem op_months (hI : Inv σ) : vt_Mi g 1 D_X11_months [.ref (g.2.1 0), .int p1] σ (fun r σ1 => vt_Mi g 1 D_X12_months [.ref (g.2.1 168), .int p1] σ1 (fun r' σ2 => r = r' ∧ Inv σ2)) := by
  obtain ⟨⟨t, nd, ns, nm, nl, lv, hN, hF, hR, hD, hS, hM, hL, hE, hV⟩, h2⟩ := id hI
  obtain ⟨⟨bt, bd, bs, bm, bl, bv⟩, ⟨xt, xv, xd, xs, xm, xl⟩, ⟨yt, yd, ys, ym, yl, yv⟩⟩ := id hN
  have xt : σ 1 9 = nI t := xt
  have xv : σ 1 8 = nI lv := xv
  have xd : σ 4 2 = nI nd := xd
  have xs : σ 7 7 = nI ns := xs
  have xm : σ 15 3 = nI nm := xm
  have xl : σ 19 5 = nI nl := xl
  refine mI ok_X11_months.1 rfl rfl rfl (s_X11_months_0 g σ _ p1 ⟨fun c1 => ⟨fun c2 => ?_, fun c2 => ?_⟩, fun c1 => ?_⟩)
  · obtain ⟨m, hm, rfl⟩ := rng (fun q => c1.1 (Int32.lt_trans q (by decide))) c1.2 (n := 24) rfl
    rw [xt, nI_add] at c2
    have ht : t + m ≤ 120 := (nI_leI (b := 120) (by omega) (by omega)).mp c2
    rw [xt, nI_add]
    refine ⟨_, rfl, mI ok_X12_months.1 rfl rfl rfl (s_X12_months_0 g _ _ (nI m) ⟨fun _ => ⟨fun _ => ?_, fun c => absurd (show σ 169 0 + nI m ≤ 120 by rw [yt, nI_add]; exact c2) c⟩, fun c => absurd c1 c⟩)⟩
    have e0 : su σ 1 (upd (σ 1) 9 (nI (t + m))) 169 = σ 169 := rfl
    rw [e0, yt, nI_add]
    refine ⟨_, rfl, rfl, ?_⟩
    have hn : ∀ j, j ≠ 0 → upd (σ 169) 0 (nI (t + m)) j = σ 169 j := fun j a => upd_ne a
    have hn0 : upd (σ 169) 0 (nI (t + m)) 0 = nI (t + m) := upd_same
    generalize upd (σ 169) 0 (nI (t + m)) = n' at hn hn0
    exact ⟨⟨t + m, nd, ns, nm, nl, lv, ⟨⟨by omega, bd, bs, bm, bl, bv⟩, ⟨rfl, xv, xd, xs, xm, xl⟩, ⟨hn0, (hn 1 (by omega)).trans yd, (hn 2 (by omega)).trans ys, (hn 3 (by omega)).trans ym, (hn 4 (by omega)).trans yl, (hn 7 (by omega)).trans yv⟩⟩, hF.fr (fun j _ _ => hn j (by omega)), hR.fr (fun j _ _ => hn j (by omega)), hD.fr hN.1.2.1 (fun j _ _ => hn j (by omega)), hS.fr hN.1.2.2.1 (fun j _ _ => hn j (by omega)), (hM.fr bm (fun j _ _ => hn j (by omega))).up (by omega) (Nat.le_refl _), hL.fr hN.1.2.2.2.2.1 (fun j _ _ => hn j (by omega)), (hE.cg hN.1.2.2.1 (fun s hs => by simp (disch := omega) only [su_ne]) (fun s hs => by simp (disch := omega) only [su_ne])).fr hN.1.2.2.1 (fun j _ _ => hn j (by omega)) (fun j _ _ => hn j (by omega)), hV.fr hN.1.2.2.2.2.2 (fun j _ _ => hn j (by omega))⟩, h2.1.cg (fun k hk => by simp (disch := omega) only [su_ne]), h2.2⟩
  · rw [xt] at c2
    exact ⟨_, rfl, mI ok_X12_months.1 rfl rfl rfl (s_X12_months_0 g _ _ p1 ⟨fun _ => ⟨fun c => absurd (by rw [← yt]; exact c) c2, fun _ => ⟨_, rfl, rfl, hI⟩⟩, fun c => absurd c1 c⟩)⟩
  · exact ⟨_, rfl, mI ok_X12_months.1 rfl rfl rfl (s_X12_months_0 g _ _ p1 ⟨fun c => absurd c c1, fun _ => ⟨_, rfl, rfl, hI⟩⟩)⟩
theorem op_rule (hI : Inv σ) : vt_Mi g 1 D_X11_rule [.ref (g.2.1 0), .int p1, .int p2] σ (fun r σ1 => vt_Mi g 1 D_X12_rule [.ref (g.2.1 168), .int p1, .int p2] σ1 (fun r' σ2 => r = r' ∧ Inv σ2)) := by
  obtain ⟨⟨t, nd, ns, nm, nl, lv, hN, hF, hR, hD, hS, hM, hL, hE, hV⟩, h2⟩ := id hI
  obtain ⟨⟨bt, bd, bs, bm, bl, bv⟩, ⟨xt, xv, xd, xs, xm, xl⟩, ⟨yt, yd, ys, ym, yl, yv⟩⟩ := id hN
  have xt : σ 1 9 = nI t := xt
  have xv : σ 1 8 = nI lv := xv
  have xd : σ 4 2 = nI nd := xd
  have xs : σ 7 7 = nI ns := xs
  have xm : σ 15 3 = nI nm := xm
  have xl : σ 19 5 = nI nl := xl
  have bad : ¬ (p1 = 0 ∧ (¬ p2 < (0 : Int32) ∧ ¬ (100 : Int32) < p2)) → ¬ (p1 = 1 ∧ (¬ p2 < (100 : Int32) ∧ ¬ (999 : Int32) < p2)) → ∃ r : Int32, some (Value.int (-1000000001)) = some (.int r) ∧ vt_Mi g 1 D_X12_rule [.ref (g.2.1 168), .int p1, .int p2] σ (fun r' σ2 => r = r' ∧ Inv σ2) := by
    intro b0 b1
    refine ⟨_, rfl, mI ok_X12_rule.1 rfl rfl rfl (s_X12_rule_0 g _ _ p1 p2 ⟨fun c => ⟨fun z => ⟨fun c2 => ?_, fun _ => ⟨_, rfl, rfl, hI⟩⟩, fun z => ⟨fun c2 => absurd ⟨z, c2⟩ b0, fun _ => ⟨_, rfl, rfl, hI⟩⟩⟩, fun _ => ⟨_, rfl, rfl, hI⟩⟩)⟩
    obtain ⟨j, hj, rfl⟩ := rng c.1 c.2 (n := 1) rfl
    have : j = 1 := by
      rcases Nat.lt_or_ge j 1 with q | q
      · exact absurd (by rw [show j = 0 by omega]; rfl) z
      · omega
    subst this
    exact absurd ⟨rfl, c2⟩ b1
  refine mI ok_X11_rule.1 rfl rfl rfl (s_X11_rule_0 g σ _ p1 p2 ⟨fun z => ⟨fun z1 => bad (fun q => z q.1) (fun q => z1 q.1), fun z1 => ⟨fun c2 => ?_, fun c2 => bad (fun q => z q.1) (fun q => c2 q.2)⟩⟩, fun z => ⟨fun c2 => ?_, fun c2 => ⟨fun z1 => bad (fun q => c2 q.2) (fun q => z1 q.1), fun z1 => absurd (z.symm.trans z1) (by decide)⟩⟩⟩)
  · subst z1
    refine ⟨vt_inl rfl, _, rfl, mI ok_X12_rule.1 rfl rfl rfl (s_X12_rule_0 g _ _ 1 p2 ⟨fun _ => ⟨fun _ => ⟨fun _ => ?_, fun c => absurd c2 c⟩, fun c => absurd c (by decide)⟩, fun c => absurd (by decide) c⟩)⟩
    · -- a good rule 1
      have e0 : su σ 3 (upd (σ 3) (1 : Int32).toNatClampNeg p2) 169 = σ 169 := rfl
      have e1 : ((5 : Int32) + 1).toNatClampNeg = 6 := by decide
      have e2 : (1 : Int32).toNatClampNeg = 1 := by decide
      rw [e0, e1, e2]
      refine ⟨vt_inl rfl, _, rfl, hR.2.symm, ?_⟩
      have hn : ∀ j, j ≠ 6 → upd (σ 169) 6 p2 j = σ 169 j := fun j a => upd_ne a
      have hn0 : upd (σ 169) 6 p2 6 = p2 := upd_same
      generalize upd (σ 169) 6 p2 = n' at hn hn0
      exact ⟨⟨t, nd, ns, nm, nl, lv, hN.fr (fun j _ => hn j (by omega)), hF.fr (fun j _ _ => hn j (by omega)), ⟨(hn 5 (by omega)).trans hR.1, hn0⟩, hD.fr hN.1.2.1 (fun j _ _ => hn j (by omega)), hS.fr hN.1.2.2.1 (fun j _ _ => hn j (by omega)), hM.fr hN.1.2.2.2.1 (fun j _ _ => hn j (by omega)), hL.fr hN.1.2.2.2.2.1 (fun j _ _ => hn j (by omega)), (hE.cg hN.1.2.2.1 (fun s hs => by simp (disch := omega) only [su_ne]) (fun s hs => by simp (disch := omega) only [su_ne])).fr hN.1.2.2.1 (fun j _ _ => hn j (by omega)) (fun j _ _ => hn j (by omega)), hV.fr hN.1.2.2.2.2.2 (fun j _ _ => hn j (by omega))⟩, h2.1.cg (fun k hk => by simp (disch := omega) only [su_ne]), h2.2⟩
  · subst z
    refine ⟨vt_inl rfl, _, rfl, mI ok_X12_rule.1 rfl rfl rfl (s_X12_rule_0 g _ _ 0 p2 ⟨fun _ => ⟨fun c => absurd rfl c, fun _ => ⟨fun _ => ?_, fun c => absurd c2 c⟩⟩, fun c => absurd (by decide) c⟩)⟩
    · -- a good rule 0
      have e0 : su σ 3 (upd (σ 3) (0 : Int32).toNatClampNeg p2) 169 = σ 169 := rfl
      have e1 : ((5 : Int32) + 0).toNatClampNeg = 5 := by decide
      have e2 : (0 : Int32).toNatClampNeg = 0 := by decide
      rw [e0, e1, e2]
      refine ⟨vt_inl rfl, _, rfl, hR.1.symm, ?_⟩
      have hn : ∀ j, j ≠ 5 → upd (σ 169) 5 p2 j = σ 169 j := fun j a => upd_ne a
      have hn0 : upd (σ 169) 5 p2 5 = p2 := upd_same
      generalize upd (σ 169) 5 p2 = n' at hn hn0
      exact ⟨⟨t, nd, ns, nm, nl, lv, hN.fr (fun j _ => hn j (by omega)), hF.fr (fun j _ _ => hn j (by omega)), ⟨hn0, (hn 6 (by omega)).trans hR.2⟩, hD.fr hN.1.2.1 (fun j _ _ => hn j (by omega)), hS.fr hN.1.2.2.1 (fun j _ _ => hn j (by omega)), hM.fr hN.1.2.2.2.1 (fun j _ _ => hn j (by omega)), hL.fr hN.1.2.2.2.2.1 (fun j _ _ => hn j (by omega)), (hE.cg hN.1.2.2.1 (fun s hs => by simp (disch := omega) only [su_ne]) (fun s hs => by simp (disch := omega) only [su_ne])).fr hN.1.2.2.1 (fun j _ _ => hn j (by omega)) (fun j _ _ => hn j (by omega)), hV.fr hN.1.2.2.2.2.2 (fun j _ _ => hn j (by omega))⟩, h2.1.cg (fun k hk => by simp (disch := omega) only [su_ne]), h2.2⟩
theorem op_fallen (hI : Inv σ) : vt_Mi g 0 D_X11_fallen [.ref (g.2.1 0), .int p1] σ (fun r σ1 => vt_Mi g 0 D_X12_fallen [.ref (g.2.1 168), .int p1] σ1 (fun r' σ2 => r = r' ∧ Inv σ2)) := by
  obtain ⟨⟨t, nd, ns, nm, nl, lv, hN, hF, hR, hD, hS, hM, hL, hE, hV⟩, h2⟩ := id hI
  obtain ⟨⟨bt, bd, bs, bm, bl, bv⟩, ⟨xt, xv, xd, xs, xm, xl⟩, ⟨yt, yd, ys, ym, yl, yv⟩⟩ := id hN
  have xt : σ 1 9 = nI t := xt
  have xv : σ 1 8 = nI lv := xv
  have xd : σ 4 2 = nI nd := xd
  have xs : σ 7 7 = nI ns := xs
  have xm : σ 15 3 = nI nm := xm
  have xl : σ 19 5 = nI nl := xl
  refine mI ok_X11_fallen.1 rfl rfl rfl (s_X11_fallen_0 g σ _ p1 ⟨fun c1 => ⟨fun c2 => ?_, fun c2 => ?_⟩, fun c1 => ?_⟩)
  · rw [xv] at c2
    exact ⟨_, rfl, mI ok_X12_fallen.1 rfl rfl rfl (s_X12_fallen_0 g _ _ p1 ⟨fun _ => ⟨fun _ => ⟨_, rfl, rfl, hI⟩, fun c => absurd (by rw [yv]; exact c2) c⟩, fun c => absurd c1 c⟩)⟩
  · rw [xv] at c2
    obtain ⟨i, hi, rfl⟩ := rngL (Int32.not_lt.mpr c1) c2 (by omega)
    have e1 : (126 : Int32) + nI i = nI (126 + i) := nI_add 126 i
    refine ⟨inN (by omega) (by omega), _, rfl, mI ok_X12_fallen.1 rfl rfl rfl (s_X12_fallen_0 g _ _ (nI i) ⟨fun _ => ⟨fun c => absurd (by rw [← yv]; exact c) c2, fun _ => ?_⟩, fun c => absurd c1 c⟩)⟩
    rw [e1, nI_clamp (by omega), nI_clamp (by omega)]
    exact ⟨inN (by omega) (by omega), _, rfl, (hV i hi).symm, hI⟩
  · exact ⟨_, rfl, mI ok_X12_fallen.1 rfl rfl rfl (s_X12_fallen_0 g _ _ p1 ⟨fun c => absurd c c1, fun _ => ⟨_, rfl, rfl, hI⟩⟩)⟩
theorem shop_ix {s f : Nat} : (30 : Int32) + 8 * nI s + nI f = nI (30 + 8 * s + f) := by
  show nI 30 + nI 8 * nI s + nI f = _
  rw [lin, nI_add]
theorem op_isOf (hI : Inv σ) : vt_Mi g 1 D_X11_isOf [.ref (g.2.1 0), .int p1, .int p2] σ (fun r σ1 => vt_Mi g 2 D_X12_isOf [.ref (g.2.1 168), .int p1, .int p2] σ1 (fun r' σ2 => r = r' ∧ Inv σ2)) := by
  obtain ⟨⟨t, nd, ns, nm, nl, lv, hN, hF, hR, hD, hS, hM, hL, hE, hV⟩, h2⟩ := id hI
  obtain ⟨⟨bt, bd, bs, bm, bl, bv⟩, ⟨xt, xv, xd, xs, xm, xl⟩, ⟨yt, yd, ys, ym, yl, yv⟩⟩ := id hN
  have xt : σ 1 9 = nI t := xt
  have xv : σ 1 8 = nI lv := xv
  have xd : σ 4 2 = nI nd := xd
  have xs : σ 7 7 = nI ns := xs
  have xm : σ 15 3 = nI nm := xm
  have xl : σ 19 5 = nI nl := xl
  have hs : ∀ a : Int32, (¬ a < 0 ∧ ¬ σ 7 7 ≤ a) ↔ (¬ a < 0 ∧ ¬ σ 169 2 - 1 < a) := fun a => by rw [xs, ys]; exact shop_has (by omega)
  refine mI ok_X11_isOf.1 rfl rfl rfl (s_X11_isOf_0 g σ _ p1 p2 ⟨fun c1 => ⟨fun c2 => ?_, fun c2 => ⟨_, rfl, mI ok_X12_isOf.1 rfl rfl rfl (s_X12_isOf_0 g _ _ p1 p2 ⟨fun _ => ⟨fun c => absurd c c2, fun _ => ⟨_, rfl, rfl, hI⟩⟩, fun c => absurd ((hs p1).mp c1) c⟩)⟩⟩, fun c1 => ⟨_, rfl, mI ok_X12_isOf.1 rfl rfl rfl (s_X12_isOf_0 g _ _ p1 p2 ⟨fun c => absurd ((hs p1).mpr c) c1, fun _ => ⟨_, rfl, rfl, hI⟩⟩)⟩⟩)
  have c1' := (hs p1).mp c1
  rw [xs] at c1
  obtain ⟨s, hss, rfl⟩ := rngL c1.1 c1.2 (by omega)
  have e1 : (30 : Int32) + 8 * nI s + 0 = nI (30 + 8 * s + 0) := shop_ix (f := 0)
  have e2 : σ 169 ((30 : Int32) + 8 * nI s + 0).toNatClampNeg = σ 8 (nI s).toNatClampNeg := by
    rw [e1, nI_clamp (by omega), nI_clamp (by omega)]
    exact (hS s hss).1
  have e3 : vp_in ((30 : Int32) + 8 * nI s + 0) 2220 := by rw [e1]; exact inN (by omega) (by omega)
  have go : ∀ v : Int32, ((p2 = 0 → v = 1) ∧ (¬ p2 = 0 → (σ 8 (nI s).toNatClampNeg = p2 → v = 1) ∧ (¬ σ 8 (nI s).toNatClampNeg = p2 → (¬ p2 = 2 → v = 0) ∧ (p2 = 2 → (¬ σ 8 (nI s).toNatClampNeg = 3 → v = 0) ∧ (σ 8 (nI s).toNatClampNeg = 3 → v = 1))))) → ∃ r : Int32, some (Value.int v) = some (.int r) ∧ vt_Mi g 2 D_X12_isOf [.ref (g.2.1 168), .int (nI s), .int p2] σ (fun r' σ2 => r = r' ∧ Inv σ2) := by
    intro v hv
    refine ⟨_, rfl, mI ok_X12_isOf.1 rfl rfl rfl (s_X12_isOf_0 g σ _ (nI s) p2 ⟨fun _ => ⟨fun _ => ⟨e3, ?_⟩, fun c => absurd c2 c⟩, fun c => absurd c1' c⟩)⟩
    rw [e2]
    exact ⟨fun z => ⟨_, rfl, hv.1 z, hI⟩, fun z => ⟨fun y => ⟨_, rfl, (hv.2 z).1 y, hI⟩, fun y => ⟨fun w => ⟨_, rfl, ((hv.2 z).2 y).1 w, hI⟩, fun w => ⟨fun u => ⟨_, rfl, (((hv.2 z).2 y).2 w).1 u, hI⟩, fun u => ⟨_, rfl, (((hv.2 z).2 y).2 w).2 u, hI⟩⟩⟩⟩⟩
  refine ⟨inN (by omega) (by omega), fun z => go 1 ?_, fun z => ⟨fun y => go 1 ?_, fun y => ⟨fun w => go 0 ?_, fun w => ⟨fun u => go 0 ?_, fun u => go 1 ?_⟩⟩⟩⟩
  · exact ⟨fun _ => rfl, fun c => absurd z c⟩
  · exact ⟨fun c => absurd c z, fun _ => ⟨fun _ => rfl, fun c => absurd y.symm c⟩⟩
  · exact ⟨fun c => absurd c z, fun _ => ⟨fun c => absurd c.symm y, fun _ => ⟨fun _ => rfl, fun c => absurd c w⟩⟩⟩
  · exact ⟨fun c => absurd c z, fun _ => ⟨fun c => absurd c.symm y, fun _ => ⟨fun c => absurd w c, fun _ => ⟨fun _ => rfl, fun c => absurd c u⟩⟩⟩⟩
  · exact ⟨fun c => absurd c z, fun _ => ⟨fun c => absurd c.symm y, fun _ => ⟨fun c => absurd w c, fun _ => ⟨fun c => absurd u c, fun _ => rfl⟩⟩⟩⟩
/-- a line's number, taken apart -/
theorem ln_dec {s m t c : Nat} (hs : s < 12) (hm : m ≤ 120) (ht : t ≤ 120) (hc : c ≤ 121) {v : Int32} (hv : v = nI (s + 12 * m + 1452 * t + 175692 * c)) :
    v - v / 12 * 12 = nI s ∧ v / 12 - v / 12 / 121 * 121 = nI m ∧ v / 1452 - v / 1452 / 121 * 121 = nI t ∧ v / 175692 = nI c := by
  subst hv
  have r12 : nI (s + 12 * m + 1452 * t + 175692 * c) - nI (s + 12 * m + 1452 * t + 175692 * c) / nI 12 * nI 12 = nI s := by
    rw [pk_rem (by omega) (by omega) (by omega)]
    exact congrArg nI (by omega)
  have d12 : nI (s + 12 * m + 1452 * t + 175692 * c) / nI 12 = nI (m + 121 * t + 14641 * c) := by
    rw [pk_div (by omega) (by omega) (by omega)]
    exact congrArg nI (by omega)
  have d14 : nI (s + 12 * m + 1452 * t + 175692 * c) / nI 1452 = nI (t + 121 * c) := by
    rw [pk_div (by omega) (by omega) (by omega)]
    exact congrArg nI (by omega)
  have d17 : nI (s + 12 * m + 1452 * t + 175692 * c) / nI 175692 = nI c := by
    rw [pk_div (by omega) (by omega) (by omega)]
    exact congrArg nI (by omega)
  refine ⟨r12, ?_, ?_, d17⟩
  · show nI _ / nI 12 - nI _ / nI 12 / nI 121 * nI 121 = nI m
    rw [d12, pk_rem (by omega) (by omega) (by omega)]
    exact congrArg nI (by omega)
  · show nI _ / nI 1452 - nI _ / nI 1452 / nI 121 * nI 121 = nI t
    rw [d14, pk_rem (by omega) (by omega) (by omega)]
    exact congrArg nI (by omega)
theorem opC_le {o : Option Nat} (h : ∀ w, o = some w → w ≤ 120) : opC o ≤ 121 := by
  cases o with
  | none => exact Nat.zero_le _
  | some w => show w + 1 ≤ 121; have := h w rfl; omega
theorem gone_neg {o : Option Nat} (h : ∀ w, o = some w → w ≤ 120) : (nI (opC o) - 1 < 0 ↔ o = none) ∧ (∀ w, o = some w → nI (opC o) - 1 = nI w) := by
  cases o with
  | none => exact ⟨⟨fun _ => rfl, fun _ => by decide⟩, fun w e => by cases e⟩
  | some w =>
    have hw := h w rfl
    have e : nI (opC (some w)) - 1 = nI w := nI_pred w
    refine ⟨⟨fun q => absurd (by rw [e] at q; exact q) (nI_pos (by omega)), fun q => by cases q⟩, fun w' e' => by cases e'; exact e⟩
theorem opN_none {o : Option Nat} (h : ∀ w, o = some w → w ≤ 120) : opN o = -1000000005 ↔ o = none := by
  cases o with
  | none => exact ⟨fun _ => rfl, fun _ => rfl⟩
  | some w => exact ⟨fun q => absurd q (nI_neNONE (by have := h w rfl; omega)), fun q => by cases q⟩
theorem op_withdraw (hI : Inv σ) : vt_Mi g 1 D_X11_withdraw [.ref (g.2.1 0), .int p1] σ (fun r σ1 => vt_Mi g 1 D_X12_withdraw [.ref (g.2.1 168), .int p1] σ1 (fun r' σ2 => r = r' ∧ Inv σ2)) := by
  obtain ⟨⟨t, nd, ns, nm, nl, lv, hN, hF, hR, hD, hS, hM, hL, hE, hV⟩, h2⟩ := id hI
  obtain ⟨⟨bt, bd, bs, bm, bl, bv⟩, ⟨xt, xv, xd, xs, xm, xl⟩, ⟨yt, yd, ys, ym, yl, yv⟩⟩ := id hN
  have xt : σ 1 9 = nI t := xt
  have xv : σ 1 8 = nI lv := xv
  have xd : σ 4 2 = nI nd := xd
  have xs : σ 7 7 = nI ns := xs
  have xm : σ 15 3 = nI nm := xm
  have xl : σ 19 5 = nI nl := xl
  have hl : ∀ a : Int32, (¬ a < 0 ∧ ¬ σ 19 5 ≤ a) ↔ (¬ a < 0 ∧ ¬ σ 169 4 - 1 < a) := fun a => by rw [xl, yl]; exact shop_has (by omega)
  obtain ⟨ls, lm, lt, lw, hln⟩ := id hL
  refine mI ok_X11_withdraw.1 rfl rfl rfl (s_X11_withdraw_0 g σ _ p1 ⟨fun c1 => ?_, fun c1 => ⟨_, rfl, mI ok_X12_withdraw.1 rfl rfl rfl (s_X12_withdraw_0 g _ _ p1 ⟨fun c => absurd ((hl p1).mpr c) c1, fun _ => ⟨_, rfl, rfl, hI⟩⟩)⟩⟩)
  have c1' := (hl p1).mp c1
  rw [xl] at c1
  obtain ⟨l, hll, rfl⟩ := rngL c1.1 c1.2 (by omega)
  obtain ⟨a1, a2, a3, a4, a5, a6, a7, a8, a9, a10⟩ := hln l hll
  have e1 : (340 : Int32) + 2 * nI l + 1 = nI (341 + 2 * l) := (lin1 340 2 l).trans (congrArg nI (by omega))
  obtain ⟨-, -, -, d4⟩ := ln_dec a7 a8 a9 (opC_le a10) a6
  have e4 : σ 169 ((340 : Int32) + 2 * nI l + 1).toNatClampNeg = σ 169 (341 + 2 * l) := by rw [e1, nI_clamp (by omega)]
  have i4 : vp_in ((340 : Int32) + 2 * nI l + 1) 2220 := by rw [e1]; exact inN (by omega) (by omega)
  have e5 : σ 24 (nI l).toNatClampNeg = opN (lw l) := by rw [nI_clamp (by omega)]; exact a4
  refine ⟨inN (by omega) (by omega), fun c2 => ?_, fun c2 => ?_⟩
  · rw [e5] at c2
    have hw := (opN_none a10).mp c2
    refine ⟨_, rfl, mI ok_X12_withdraw.1 rfl rfl rfl (s_X12_withdraw_0 g _ _ (nI l) ⟨fun _ => ⟨i4, fun _ => ⟨i4, ?_⟩, fun c => absurd (by show σ 169 _ / 175692 - 1 < 0; rw [e4, d4]; exact ((gone_neg a10).1).mpr hw) c⟩, fun c => absurd c1' c⟩)⟩
    have e0 : su σ 24 (upd (σ 24) (nI l).toNatClampNeg (σ 1 9)) 169 = σ 169 := rfl
    rw [e0, e4, e1, nI_clamp (by omega), nI_clamp (by omega), xt, yt]
    refine ⟨_, rfl, rfl, ?_⟩
    have ev : σ 169 (341 + 2 * l) + 175692 * (nI t + 1) = nI (ls l + 12 * lm l + 1452 * lt l + 175692 * (t + 1)) := by
      rw [a6, hw, nI_1]
      show nI _ + nI 175692 * nI (t + 1) = _
      rw [pk_mul, nI_add]
      exact congrArg nI (by show _ + 175692 * 0 + _ = _; omega)
    rw [ev]
    have hn : ∀ j, j ≠ 341 + 2 * l → upd (σ 169) (341 + 2 * l) (nI (ls l + 12 * lm l + 1452 * lt l + 175692 * (t + 1))) j = σ 169 j := fun j a => upd_ne a
    have hn0 : upd (σ 169) (341 + 2 * l) (nI (ls l + 12 * lm l + 1452 * lt l + 175692 * (t + 1))) (341 + 2 * l) = nI (ls l + 12 * lm l + 1452 * lt l + 175692 * (t + 1)) := upd_same
    generalize upd (σ 169) (341 + 2 * l) (nI (ls l + 12 * lm l + 1452 * lt l + 175692 * (t + 1))) = n' at hn hn0
    refine ⟨⟨t, nd, ns, nm, nl, lv, hN.fr (fun j _ => hn j (by omega)), hF.fr (fun j _ _ => hn j (by omega)), hR.fr (fun j _ _ => hn j (by omega)), hD.fr hN.1.2.1 (fun j _ _ => hn j (by omega)), hS.fr hN.1.2.2.1 (fun j _ _ => hn j (by omega)), hM.fr hN.1.2.2.2.1 (fun j _ _ => hn j (by omega)), ⟨ls, lm, lt, upd0 lw l (some t), fun i hi => ?_⟩, (hE.cg hN.1.2.2.1 (fun s hs => by simp (disch := omega) only [su_ne]) (fun s hs => by simp (disch := omega) only [su_ne])).fr hN.1.2.2.1 (fun j _ _ => hn j (by omega)) (fun j _ _ => hn j (by omega)), hV.fr hN.1.2.2.2.2.2 (fun j _ _ => hn j (by omega))⟩, h2.1.cg (fun k hk => by simp (disch := omega) only [su_ne]), h2.2⟩
    obtain ⟨b1, b2, b3, b4, b5, b6, b7⟩ := hln i hi
    by_cases e : i = l
    · subst e
      simp only [upd0_same]
      exact ⟨b1, b2, b3, upd_same, (hn _ (by omega)).trans b5, hn0, b7.1, b7.2.1, b7.2.2.1, fun w h => by cases h; omega⟩
    · simp only [upd0_ne e]
      exact ⟨b1, b2, b3, (upd_ne e).trans b4, (hn _ (by omega)).trans b5, (hn _ (by omega)).trans b6, b7⟩
  · rw [e5] at c2
    have hw : ¬ lw l = none := fun q => c2 ((opN_none a10).mpr q)
    refine ⟨_, rfl, mI ok_X12_withdraw.1 rfl rfl rfl (s_X12_withdraw_0 g _ _ (nI l) ⟨fun _ => ⟨i4, fun c => ?_, fun _ => ⟨_, rfl, rfl, hI⟩⟩, fun c => absurd c1' c⟩)⟩
    rw [e4, d4] at c
    exact absurd (((gone_neg a10).1).mp c) hw
theorem op_line (hI : Inv σ) : vt_Mi g 1 D_X11_line [.ref (g.2.1 0), .int p1, .int p2] σ (fun r σ1 => vt_Mi g 1 D_X12_line [.ref (g.2.1 168), .int p1, .int p2] σ1 (fun r' σ2 => r = r' ∧ Inv σ2)) := by
  obtain ⟨⟨t, nd, ns, nm, nl, lv, hN, hF, hR, hD, hS, hM, hL, hE, hV⟩, h2⟩ := id hI
  obtain ⟨⟨bt, bd, bs, bm, bl, bv⟩, ⟨xt, xv, xd, xs, xm, xl⟩, ⟨yt, yd, ys, ym, yl, yv⟩⟩ := id hN
  have xt : σ 1 9 = nI t := xt
  have xv : σ 1 8 = nI lv := xv
  have xd : σ 4 2 = nI nd := xd
  have xs : σ 7 7 = nI ns := xs
  have xm : σ 15 3 = nI nm := xm
  have xl : σ 19 5 = nI nl := xl
  have hl : ∀ a : Int32, (¬ a < 0 ∧ ¬ σ 19 5 ≤ a) ↔ (¬ a < 0 ∧ ¬ σ 169 4 - 1 < a) := fun a => by rw [xl, yl]; exact shop_has (by omega)
  obtain ⟨ls, lm, lt, lw, hln⟩ := id hL
  refine mI ok_X11_line.1 rfl rfl rfl (s_X11_line_0 g σ _ p1 p2 ⟨fun c1 => ⟨fun c2 => ?_, fun c2 => ⟨_, rfl, mI ok_X12_line.1 rfl rfl rfl (s_X12_line_0 g _ _ p1 p2 ⟨fun _ => ⟨fun c => absurd c c2, fun _ => ⟨_, rfl, rfl, hI⟩⟩, fun c => absurd ((hl p1).mp c1) c⟩)⟩⟩, fun c1 => ⟨_, rfl, mI ok_X12_line.1 rfl rfl rfl (s_X12_line_0 g _ _ p1 p2 ⟨fun c => absurd ((hl p1).mpr c) c1, fun _ => ⟨_, rfl, rfl, hI⟩⟩)⟩⟩)
  have c1' := (hl p1).mp c1
  rw [xl] at c1
  obtain ⟨l, hll, rfl⟩ := rngL c1.1 c1.2 (by omega)
  obtain ⟨a1, a2, a3, a4, a5, a6, a7, a8, a9, a10⟩ := hln l hll
  have e1 : (340 : Int32) + 2 * nI l + 1 = nI (341 + 2 * l) := (lin1 340 2 l).trans (congrArg nI (by omega))
  have e2 : (340 : Int32) + 2 * nI l = nI (340 + 2 * l) := lin 340 2 l
  obtain ⟨d1, d2, d3, d4⟩ := ln_dec a7 a8 a9 (opC_le a10) a6
  have e4 : σ 169 ((340 : Int32) + 2 * nI l + 1).toNatClampNeg = σ 169 (341 + 2 * l) := by rw [e1, nI_clamp (by omega)]
  have i4 : vp_in ((340 : Int32) + 2 * nI l + 1) 2220 := by rw [e1]; exact inN (by omega) (by omega)
  have i5 : vp_in ((340 : Int32) + 2 * nI l) 2220 := by rw [e2]; exact inN (by omega) (by omega)
  have e6 : σ 169 ((340 : Int32) + 2 * nI l).toNatClampNeg = σ 169 (340 + 2 * l) := by rw [e2, nI_clamp (by omega)]
  have ix : vp_in (nI l) 100 := inN (by omega) (by omega)
  rw [nI_clamp (by omega)]
  have go : ∀ v : Int32, ((¬ p2 = 0 → (¬ p2 = 1 → (¬ p2 = 2 → (¬ p2 = 3 → v = opN (lw l)) ∧ (p2 = 3 → v = nI (lt l))) ∧ (p2 = 2 → v = σ 22 l)) ∧ (p2 = 1 → v = nI (lm l))) ∧ (p2 = 0 → v = nI (ls l))) → ∃ r : Int32, some (Value.int v) = some (.int r) ∧ vt_Mi g 1 D_X12_line [.ref (g.2.1 168), .int (nI l), .int p2] σ (fun r' σ2 => r = r' ∧ Inv σ2) := by
    intro v hv
    refine ⟨_, rfl, mI ok_X12_line.1 rfl rfl rfl (s_X12_line_0 g σ _ (nI l) p2 ⟨fun _ => ⟨fun _ => ⟨i4, ?_⟩, fun c => absurd c2 c⟩, fun c => absurd c1' c⟩)⟩
    rw [e4, e6, d1, d2, d3, d4]
    refine ⟨fun z => ⟨fun y => ⟨fun w => ⟨fun u => ⟨i4, fun q => ⟨_, rfl, ?_, hI⟩, fun q => ⟨_, rfl, ?_, hI⟩⟩, fun u => ⟨_, rfl, (((hv.1 z).1 y).1 w).2 u, hI⟩⟩, fun w => ⟨i5, _, rfl, (((hv.1 z).1 y).2 w).trans a5.symm, hI⟩⟩, fun y => ⟨_, rfl, (hv.1 z).2 y, hI⟩⟩, fun z => ⟨_, rfl, hv.2 z, hI⟩⟩
    · rw [(((hv.1 z).1 y).1 w).1 u]
      cases hw : lw l with
      | none => rw [hw] at q; exact absurd q (by decide)
      | some k => exact ((gone_neg (o := some k) (fun w e => a10 w (hw.trans e))).2 k rfl).symm
    · rw [(((hv.1 z).1 y).1 w).1 u]
      cases hw : lw l with
      | none => rfl
      | some k =>
        rw [hw, (gone_neg (o := some k) (fun w e => a10 w (hw.trans e))).2 k rfl] at q
        exact absurd (nI_pos' (by have := a10 k hw; omega)) q
  refine ⟨fun z => ⟨ix, go _ ?_⟩, fun z => ⟨fun y => ⟨ix, go _ ?_⟩, fun y => ⟨fun w => ⟨ix, go _ ?_⟩, fun w => ⟨fun u => ⟨ix, go _ ?_⟩, fun u => ⟨ix, go _ ?_⟩⟩⟩⟩⟩
  · exact ⟨fun c => absurd z c, fun _ => a1⟩
  · exact ⟨fun _ => ⟨fun c => absurd y c, fun _ => a2⟩, fun c => absurd c z⟩
  · exact ⟨fun _ => ⟨fun _ => ⟨fun c => absurd w c, fun _ => rfl⟩, fun c => absurd c y⟩, fun c => absurd c z⟩
  · exact ⟨fun _ => ⟨fun _ => ⟨fun _ => ⟨fun c => absurd u c, fun _ => a3⟩, fun c => absurd c w⟩, fun c => absurd c y⟩, fun c => absurd c z⟩
  · exact ⟨fun _ => ⟨fun _ => ⟨fun _ => ⟨fun _ => a4, fun c => absurd c u⟩, fun c => absurd c w⟩, fun c => absurd c y⟩, fun c => absurd c z⟩
theorem op_take (hI : Inv σ) : vt_Mi g 2 D_X11_take [.ref (g.2.1 0), .int p1, .int p2, .int p3] σ (fun r σ1 => vt_Mi g 2 D_X12_take [.ref (g.2.1 168), .int p1, .int p2, .int p3] σ1 (fun r' σ2 => r = r' ∧ Inv σ2)) := by
  obtain ⟨⟨t, nd, ns, nm, nl, lv, hN, hF, hR, hD, hS, hM, hL, hE, hV⟩, h2⟩ := id hI
  obtain ⟨⟨bt, bd, bs, bm, bl, bv⟩, ⟨xt, xv, xd, xs, xm, xl⟩, ⟨yt, yd, ys, ym, yl, yv⟩⟩ := id hN
  have xt : σ 1 9 = nI t := xt
  have xv : σ 1 8 = nI lv := xv
  have xd : σ 4 2 = nI nd := xd
  have xs : σ 7 7 = nI ns := xs
  have xm : σ 15 3 = nI nm := xm
  have xl : σ 19 5 = nI nl := xl
  have hs : ∀ a : Int32, (¬ a < 0 ∧ ¬ σ 7 7 ≤ a) ↔ (¬ a < 0 ∧ ¬ σ 169 2 - 1 < a) := fun a => by rw [xs, ys]; exact shop_has (by omega)
  have ht : σ 1 9 = σ 169 0 := xt.trans yt.symm
  obtain ⟨ls, lm, lt, lw, hln⟩ := id hL
  refine mI ok_X11_take.1 rfl rfl rfl (s_X11_take_0 g σ _ p1 p2 p3 ⟨fun c1 => ⟨fun c2 => ⟨fun c3 => ⟨fun c4 => ?_, fun c4 => ?_⟩, fun c3 => ?_⟩, fun c2 => ?_⟩, fun c1 => ?_⟩)
  · have c1' := (hs p1).mp c1
    have c2' := c2
    rw [ht] at c2'
    rw [xs] at c1
    rw [xt] at c2
    rw [xl] at c4
    obtain ⟨s, hss, rfl⟩ := rngL c1.1 c1.2 (by omega)
    obtain ⟨m, hm, rfl⟩ := rng c2.1 c2.2 (n := t) (nI_toInt (by omega))
    have hl4 : nl < 100 := (nI_ltI (b := 100) (by omega) (by omega)).mp c4
    refine mI ok_X5_add.1 rfl rfl rfl (s_X5_add_0 g σ _ (nI s) (nI m) p3 (σ 1 9) ?_)
    rw [xl, xt, nI_clamp (by omega), nI_1]
    refine ⟨inN hl4 (by omega), _, rfl, _, rfl, mI ok_X12_take.1 rfl rfl rfl (s_X12_take_0 g _ _ (nI s) (nI m) p3 ⟨fun _ => ⟨fun _ => ⟨fun _ => ⟨fun _ => ?_, fun c => absurd (nI_inj (a := nl) (b := 100) (by rw [← yl]; exact c) (by omega) (by omega)) (by omega)⟩, fun c => absurd c3 c⟩, fun c => absurd c2' c⟩, fun c => absurd c1' c⟩)⟩
    have e0 : su (su (su (su (su (su σ 20 (upd (σ 20) nl (nI s))) 21 (upd (σ 21) nl (nI m))) 22 (upd (σ 22) nl p3)) 23 (upd (σ 23) nl (nI t))) 24 (upd (σ 24) nl (-1000000005))) 19 (upd (σ 19) 5 (nI (nl + 1))) 169 = σ 169 := rfl
    have e1 : (340 : Int32) + 2 * nI nl + 1 = nI (341 + 2 * nl) := (lin1 340 2 nl).trans (congrArg nI (by omega))
    have e2 : (340 : Int32) + 2 * nI nl = nI (340 + 2 * nl) := lin 340 2 nl
    rw [e0, yl, e1, e2, nI_clamp (by omega), nI_clamp (by omega), upd_ne (j := 0) (by omega), upd_ne (j := 4) (by omega), upd_ne (j := 4) (by omega), yl, nI_1, yt]
    have ev : nI s + 12 * nI m + 1452 * nI t = nI (s + 12 * m + 1452 * t + 175692 * opC none) := by
      show nI s + nI 12 * nI m + nI 1452 * nI t = _
      rw [pk_mul, pk_mul, nI_add, nI_add]
      exact congrArg nI (by show _ = _ + 175692 * 0; omega)
    rw [ev]
    refine ⟨inN (by omega) (by omega), inN (by omega) (by omega), _, rfl, ?_, ?_⟩
    · rw [nI_pred]
    · rw [su_su, su_su]
      have hn : ∀ j, j ≠ 4 → j ≠ 340 + 2 * nl → j ≠ 341 + 2 * nl → upd (upd (upd (σ 169) (340 + 2 * nl) p3) (341 + 2 * nl) (nI (s + 12 * m + 1452 * t + 175692 * opC none))) 4 (nI (nl + 1)) j = σ 169 j := fun j a b c => by rw [upd_ne a, upd_ne c, upd_ne b]
      have hn1 : upd (upd (upd (σ 169) (340 + 2 * nl) p3) (341 + 2 * nl) (nI (s + 12 * m + 1452 * t + 175692 * opC none))) 4 (nI (nl + 1)) 4 = nI (nl + 1) := upd_same
      have hn2 : upd (upd (upd (σ 169) (340 + 2 * nl) p3) (341 + 2 * nl) (nI (s + 12 * m + 1452 * t + 175692 * opC none))) 4 (nI (nl + 1)) (340 + 2 * nl) = p3 := by rw [upd_ne (by omega), upd_ne (by omega), upd_same]
      have hn3 : upd (upd (upd (σ 169) (340 + 2 * nl) p3) (341 + 2 * nl) (nI (s + 12 * m + 1452 * t + 175692 * opC none))) 4 (nI (nl + 1)) (341 + 2 * nl) = nI (s + 12 * m + 1452 * t + 175692 * opC none) := by rw [upd_ne (by omega), upd_same]
      generalize upd (upd (upd (σ 169) (340 + 2 * nl) p3) (341 + 2 * nl) (nI (s + 12 * m + 1452 * t + 175692 * opC none))) 4 (nI (nl + 1)) = n' at hn hn1 hn2 hn3
      refine ⟨⟨t, nd, ns, nm, nl + 1, lv, ⟨⟨bt, bd, bs, bm, by omega, bv⟩, ⟨xt, xv, xd, xs, xm, rfl⟩, ⟨(hn 0 (by omega) (by omega) (by omega)).trans yt, (hn 1 (by omega) (by omega) (by omega)).trans yd, (hn 2 (by omega) (by omega) (by omega)).trans ys, (hn 3 (by omega) (by omega) (by omega)).trans ym, hn1, (hn 7 (by omega) (by omega) (by omega)).trans yv⟩⟩, hF.fr (fun j _ _ => hn j (by omega) (by omega) (by omega)), hR.fr (fun j _ _ => hn j (by omega) (by omega) (by omega)), hD.fr hN.1.2.1 (fun j _ _ => hn j (by omega) (by omega) (by omega)), hS.fr hN.1.2.2.1 (fun j _ _ => hn j (by omega) (by omega) (by omega)), hM.fr hN.1.2.2.2.1 (fun j _ _ => hn j (by omega) (by omega) (by omega)), ⟨upd0 ls nl s, upd0 lm nl m, upd0 lt nl t, upd0 lw nl none, fun i hi => ?_⟩, (hE.cg hN.1.2.2.1 (fun s hs => by simp (disch := omega) only [su_ne]) (fun s hs => by simp (disch := omega) only [su_ne])).fr hN.1.2.2.1 (fun j _ _ => hn j (by omega) (by omega) (by omega)) (fun j _ _ => hn j (by omega) (by omega) (by omega)), hV.fr hN.1.2.2.2.2.2 (fun j _ _ => hn j (by omega) (by omega) (by omega))⟩, h2.1.cg (fun k hk => by simp (disch := omega) only [su_ne]), h2.2⟩
      by_cases e : i = nl
      · subst e
        simp only [upd0_same]
        exact ⟨upd_same, upd_same, upd_same, upd_same, hn2.trans upd_same.symm, hn3, by omega, by omega, by omega, fun w h => by cases h⟩
      · obtain ⟨b1, b2, b3, b4, b5, b6, b7⟩ := hln i (by omega)
        simp only [upd0_ne e]
        exact ⟨(upd_ne e).trans b1, (upd_ne e).trans b2, (upd_ne e).trans b3, (upd_ne e).trans b4, ((hn _ (by omega) (by omega) (by omega)).trans b5).trans (upd_ne e).symm, (hn _ (by omega) (by omega) (by omega)).trans b6, b7⟩
  · rw [xl] at c4
    have hl4 : nl = 100 := by
      have : ¬ nl < 100 := fun q => c4 (show nI nl < nI 100 from nI_lt q (by omega))
      omega
    rw [ht] at c2
    exact ⟨_, rfl, mI ok_X12_take.1 rfl rfl rfl (s_X12_take_0 g _ _ p1 p2 p3 ⟨fun _ => ⟨fun _ => ⟨fun _ => ⟨fun c => absurd (by rw [yl, hl4]; rfl) c, fun _ => ⟨_, rfl, rfl, hI⟩⟩, fun c => absurd c3 c⟩, fun c => absurd c2 c⟩, fun c => absurd ((hs p1).mp c1) c⟩)⟩
  · rw [ht] at c2
    exact ⟨_, rfl, mI ok_X12_take.1 rfl rfl rfl (s_X12_take_0 g _ _ p1 p2 p3 ⟨fun _ => ⟨fun _ => ⟨fun c => absurd c c3, fun _ => ⟨_, rfl, rfl, hI⟩⟩, fun c => absurd c2 c⟩, fun c => absurd ((hs p1).mp c1) c⟩)⟩
  · rw [ht] at c2
    exact ⟨_, rfl, mI ok_X12_take.1 rfl rfl rfl (s_X12_take_0 g _ _ p1 p2 p3 ⟨fun _ => ⟨fun c => absurd c c2, fun _ => ⟨_, rfl, rfl, hI⟩⟩, fun c => absurd ((hs p1).mp c1) c⟩)⟩
  · exact ⟨_, rfl, mI ok_X12_take.1 rfl rfl rfl (s_X12_take_0 g _ _ p1 p2 p3 ⟨fun c => absurd ((hs p1).mpr c) c1, fun _ => ⟨_, rfl, rfl, hI⟩⟩)⟩
end OPS2
