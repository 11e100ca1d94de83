/-! OPERATIONS, more of the plain ones -/
section OPS2
variable {g : vt_GT} {σ : vt_Sg} {p1 p2 p3 p4 p5 : Int32}
theorem op_months (hI : Inv σ) : vt_Mi g 1 D_X11_months [.ref (g.2.1 0), .int p1] σ (fun r σ1 => vt_Mi g 1 D_X12_months [.ref (g.2.1 168), .int p1] σ1 (fun r' σ2 => r = r' ∧ Inv σ2)) := by
  obtain ⟨⟨t, nd, ns, nm, nl, lv, hN, hF, hR, hD, hS, hM, hL, hE, hV⟩, h2⟩ := id hI
  obtain ⟨⟨bt, bd, bs, bm, bl, bv⟩, ⟨xt, xv, xd, xs, xm, xl⟩, ⟨yt, yd, ys, ym, yl, yv⟩⟩ := id hN
  have xt : σ 1 9 = nI t := xt
  have xv : σ 1 8 = nI lv := xv
  have xd : σ 4 2 = nI nd := xd
  have xs : σ 7 7 = nI ns := xs
  have xm : σ 15 3 = nI nm := xm
  have xl : σ 19 5 = nI nl := xl
  refine mI ok_X11_months.1 rfl rfl rfl (s_X11_months_0 g σ _ p1 ⟨fun c1 => ⟨fun c2 => ?_, fun c2 => ?_⟩, fun c1 => ?_⟩)
  · obtain ⟨m, hm, rfl⟩ := rng (fun q => c1.1 (Int32.lt_trans q (by decide))) c1.2 (n := 24) rfl
    rw [xt, nI_add] at c2
    have ht : t + m ≤ 120 := (nI_leI (b := 120) (by omega) (by omega)).mp c2
    rw [xt, nI_add]
    refine ⟨_, rfl, mI ok_X12_months.1 rfl rfl rfl (s_X12_months_0 g _ _ (nI m) ⟨fun _ => ⟨fun _ => ?_, fun c => absurd (show σ 169 0 + nI m ≤ 120 by rw [yt, nI_add]; exact c2) c⟩, fun c => absurd c1 c⟩)⟩
    have e0 : su σ 1 (upd (σ 1) 9 (nI (t + m))) 169 = σ 169 := rfl
    rw [e0, yt, nI_add]
    refine ⟨_, rfl, rfl, ?_⟩
    have hn : ∀ j, j ≠ 0 → upd (σ 169) 0 (nI (t + m)) j = σ 169 j := fun j a => upd_ne a
    have hn0 : upd (σ 169) 0 (nI (t + m)) 0 = nI (t + m) := upd_same
    generalize upd (σ 169) 0 (nI (t + m)) = n' at hn hn0
    exact ⟨⟨t + m, nd, ns, nm, nl, lv, ⟨⟨by omega, bd, bs, bm, bl, bv⟩, ⟨rfl, xv, xd, xs, xm, xl⟩, ⟨hn0, (hn 1 (by omega)).trans yd, (hn 2 (by omega)).trans ys, (hn 3 (by omega)).trans ym, (hn 4 (by omega)).trans yl, (hn 7 (by omega)).trans yv⟩⟩, hF.fr (fun j _ _ => hn j (by omega)), hR.fr (fun j _ _ => hn j (by omega)), hD.fr hN.1.2.1 (fun j _ _ => hn j (by omega)), hS.fr hN.1.2.2.1 (fun j _ _ => hn j (by omega)), (hM.fr bm (fun j _ _ => hn j (by omega))).up (by omega) (Nat.le_refl _), hL.fr hN.1.2.2.2.2.1 (fun j _ _ => hn j (by omega)), (hE.cg hN.1.2.2.1 (fun s hs => by simp (disch := omega) only [su_ne]) (fun s hs => by simp (disch := omega) only [su_ne])).fr hN.1.2.2.1 (fun j _ _ => hn j (by omega)) (fun j _ _ => hn j (by omega)), hV.fr hN.1.2.2.2.2.2 (fun j _ _ => hn j (by omega))⟩, h2.1.cg (fun k hk => by simp (disch := omega) only [su_ne]), h2.2⟩
  · rw [xt] at c2
    exact ⟨_, rfl, mI ok_X12_months.1 rfl rfl rfl (s_X12_months_0 g _ _ p1 ⟨fun _ => ⟨fun c => absurd (by rw [← yt]; exact c) c2, fun _ => ⟨_, rfl, rfl, hI⟩⟩, fun c => absurd c1 c⟩)⟩
  · exact ⟨_, rfl, mI ok_X12_months.1 rfl rfl rfl (s_X12_months_0 g _ _ p1 ⟨fun c => absurd c c1, fun _ => ⟨_, rfl, rfl, hI⟩⟩)⟩
theorem op_rule (hI : Inv σ) : vt_Mi g 1 D_X11_rule [.ref (g.2.1 0), .int p1, .int p2] σ (fun r σ1 => vt_Mi g 1 D_X12_rule [.ref (g.2.1 168), .int p1, .int p2] σ1 (fun r' σ2 => r = r' ∧ Inv σ2)) := by
  obtain ⟨⟨t, nd, ns, nm, nl, lv, hN, hF, hR, hD, hS, hM, hL, hE, hV⟩, h2⟩ := id hI
  obtain ⟨⟨bt, bd, bs, bm, bl, bv⟩, ⟨xt, xv, xd, xs, xm, xl⟩, ⟨yt, yd, ys, ym, yl, yv⟩⟩ := id hN
  have xt : σ 1 9 = nI t := xt
  have xv : σ 1 8 = nI lv := xv
  have xd : σ 4 2 = nI nd := xd
  have xs : σ 7 7 = nI ns := xs
  have xm : σ 15 3 = nI nm := xm
  have xl : σ 19 5 = nI nl := xl
  have bad : ¬ (p1 = 0 ∧ (¬ p2 < (0 : Int32) ∧ ¬ (100 : Int32) < p2)) → ¬ (p1 = 1 ∧ (¬ p2 < (100 : Int32) ∧ ¬ (999 : Int32) < p2)) → ∃ r : Int32, some (Value.int (-1000000001)) = some (.int r) ∧ vt_Mi g 1 D_X12_rule [.ref (g.2.1 168), .int p1, .int p2] σ (fun r' σ2 => r = r' ∧ Inv σ2) := by
    intro b0 b1
    refine ⟨_, rfl, mI ok_X12_rule.1 rfl rfl rfl (s_X12_rule_0 g _ _ p1 p2 ⟨fun c => ⟨fun z => ⟨fun c2 => ?_, fun _ => ⟨_, rfl, rfl, hI⟩⟩, fun z => ⟨fun c2 => absurd ⟨z, c2⟩ b0, fun _ => ⟨_, rfl, rfl, hI⟩⟩⟩, fun _ => ⟨_, rfl, rfl, hI⟩⟩)⟩
    obtain ⟨j, hj, rfl⟩ := rng c.1 c.2 (n := 1) rfl
    have : j = 1 := by
      rcases Nat.lt_or_ge j 1 with q | q
      · exact absurd (by rw [show j = 0 by omega]; rfl) z
      · omega
    subst this
    exact absurd ⟨rfl, c2⟩ b1
  refine mI ok_X11_rule.1 rfl rfl rfl (s_X11_rule_0 g σ _ p1 p2 ⟨fun z => ⟨fun z1 => bad (fun q => z q.1) (fun q => z1 q.1), fun z1 => ⟨fun c2 => ?_, fun c2 => bad (fun q => z q.1) (fun q => c2 q.2)⟩⟩, fun z => ⟨fun c2 => ?_, fun c2 => ⟨fun z1 => bad (fun q => c2 q.2) (fun q => z1 q.1), fun z1 => absurd (z.symm.trans z1) (by decide)⟩⟩⟩)
  · subst z1
    refine ⟨vt_inl rfl, _, rfl, mI ok_X12_rule.1 rfl rfl rfl (s_X12_rule_0 g _ _ 1 p2 ⟨fun _ => ⟨fun _ => ⟨fun _ => ?_, fun c => absurd c2 c⟩, fun c => absurd c (by decide)⟩, fun c => absurd (by decide) c⟩)⟩
    · -- a good rule 1
      have e0 : su σ 3 (upd (σ 3) (1 : Int32).toNatClampNeg p2) 169 = σ 169 := rfl
      have e1 : ((5 : Int32) + 1).toNatClampNeg = 6 := by decide
      have e2 : (1 : Int32).toNatClampNeg = 1 := by decide
      rw [e0, e1, e2]
      refine ⟨vt_inl rfl, _, rfl, hR.2.symm, ?_⟩
      have hn : ∀ j, j ≠ 6 → upd (σ 169) 6 p2 j = σ 169 j := fun j a => upd_ne a
      have hn0 : upd (σ 169) 6 p2 6 = p2 := upd_same
      generalize upd (σ 169) 6 p2 = n' at hn hn0
      exact ⟨⟨t, nd, ns, nm, nl, lv, hN.fr (fun j _ => hn j (by omega)), hF.fr (fun j _ _ => hn j (by omega)), ⟨(hn 5 (by omega)).trans hR.1, hn0⟩, hD.fr hN.1.2.1 (fun j _ _ => hn j (by omega)), hS.fr hN.1.2.2.1 (fun j _ _ => hn j (by omega)), hM.fr hN.1.2.2.2.1 (fun j _ _ => hn j (by omega)), hL.fr hN.1.2.2.2.2.1 (fun j _ _ => hn j (by omega)), (hE.cg hN.1.2.2.1 (fun s hs => by simp (disch := omega) only [su_ne]) (fun s hs => by simp (disch := omega) only [su_ne])).fr hN.1.2.2.1 (fun j _ _ => hn j (by omega)) (fun j _ _ => hn j (by omega)), hV.fr hN.1.2.2.2.2.2 (fun j _ _ => hn j (by omega))⟩, h2.1.cg (fun k hk => by simp (disch := omega) only [su_ne]), h2.2⟩
  · subst z
    refine ⟨vt_inl rfl, _, rfl, mI ok_X12_rule.1 rfl rfl rfl (s_X12_rule_0 g _ _ 0 p2 ⟨fun _ => ⟨fun c => absurd rfl c, fun _ => ⟨fun _ => ?_, fun c => absurd c2 c⟩⟩, fun c => absurd (by decide) c⟩)⟩
    · -- a good rule 0
      have e0 : su σ 3 (upd (σ 3) (0 : Int32).toNatClampNeg p2) 169 = σ 169 := rfl
      have e1 : ((5 : Int32) + 0).toNatClampNeg = 5 := by decide
      have e2 : (0 : Int32).toNatClampNeg = 0 := by decide
      rw [e0, e1, e2]
      refine ⟨vt_inl rfl, _, rfl, hR.1.symm, ?_⟩
      have hn : ∀ j, j ≠ 5 → upd (σ 169) 5 p2 j = σ 169 j := fun j a => upd_ne a
      have hn0 : upd (σ 169) 5 p2 5 = p2 := upd_same
      generalize upd (σ 169) 5 p2 = n' at hn hn0
      exact ⟨⟨t, nd, ns, nm, nl, lv, hN.fr (fun j _ => hn j (by omega)), hF.fr (fun j _ _ => hn j (by omega)), ⟨hn0, (hn 6 (by omega)).trans hR.2⟩, hD.fr hN.1.2.1 (fun j _ _ => hn j (by omega)), hS.fr hN.1.2.2.1 (fun j _ _ => hn j (by omega)), hM.fr hN.1.2.2.2.1 (fun j _ _ => hn j (by omega)), hL.fr hN.1.2.2.2.2.1 (fun j _ _ => hn j (by omega)), (hE.cg hN.1.2.2.1 (fun s hs => by simp (disch := omega) only [su_ne]) (fun s hs => by simp (disch := omega) only [su_ne])).fr hN.1.2.2.1 (fun j _ _ => hn j (by omega)) (fun j _ _ => hn j (by omega)), hV.fr hN.1.2.2.2.2.2 (fun j _ _ => hn j (by omega))⟩, h2.1.cg (fun k hk => by simp (disch := omega) only [su_ne]), h2.2⟩
theorem op_fallen (hI : Inv σ) : vt_Mi g 0 D_X11_fallen [.ref (g.2.1 0), .int p1] σ (fun r σ1 => vt_Mi g 0 D_X12_fallen [.ref (g.2.1 168), .int p1] σ1 (fun r' σ2 => r = r' ∧ Inv σ2)) := by
  obtain ⟨⟨t, nd, ns, nm, nl, lv, hN, hF, hR, hD, hS, hM, hL, hE, hV⟩, h2⟩ := id hI
  obtain ⟨⟨bt, bd, bs, bm, bl, bv⟩, ⟨xt, xv, xd, xs, xm, xl⟩, ⟨yt, yd, ys, ym, yl, yv⟩⟩ := id hN
  have xt : σ 1 9 = nI t := xt
  have xv : σ 1 8 = nI lv := xv
  have xd : σ 4 2 = nI nd := xd
  have xs : σ 7 7 = nI ns := xs
  have xm : σ 15 3 = nI nm := xm
  have xl : σ 19 5 = nI nl := xl
  refine mI ok_X11_fallen.1 rfl rfl rfl (s_X11_fallen_0 g σ _ p1 ⟨fun c1 => ⟨fun c2 => ?_, fun c2 => ?_⟩, fun c1 => ?_⟩)
  · rw [xv] at c2
    exact ⟨_, rfl, mI ok_X12_fallen.1 rfl rfl rfl (s_X12_fallen_0 g _ _ p1 ⟨fun _ => ⟨fun _ => ⟨_, rfl, rfl, hI⟩, fun c => absurd (by rw [yv]; exact c2) c⟩, fun c => absurd c1 c⟩)⟩
  · rw [xv] at c2
    obtain ⟨i, hi, rfl⟩ := rngL (Int32.not_lt.mpr c1) c2 (by omega)
    have e1 : (126 : Int32) + nI i = nI (126 + i) := nI_add 126 i
    refine ⟨inN (by omega) (by omega), _, rfl, mI ok_X12_fallen.1 rfl rfl rfl (s_X12_fallen_0 g _ _ (nI i) ⟨fun _ => ⟨fun c => absurd (by rw [← yv]; exact c) c2, fun _ => ?_⟩, fun c => absurd c1 c⟩)⟩
    rw [e1, nI_clamp (by omega), nI_clamp (by omega)]
    exact ⟨inN (by omega) (by omega), _, rfl, (hV i hi).symm, hI⟩
  · exact ⟨_, rfl, mI ok_X12_fallen.1 rfl rfl rfl (s_X12_fallen_0 g _ _ p1 ⟨fun c => absurd c c1, fun _ => ⟨_, rfl, rfl, hI⟩⟩)⟩
theorem shop_ix {s f : Nat} : (30 : Int32) + 8 * nI s + nI f = nI (30 + 8 * s + f) := by
  show nI 30 + nI 8 * nI s + nI f = _
  rw [lin, nI_add]
end OPS2
