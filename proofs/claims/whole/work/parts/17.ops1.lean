/-! OPERATIONS, the plain ones: the component's call, then the reference's: the same answer, the tie holds again -/
section OPS1
variable {g : vt_GT} {σ : vt_Sg} {p1 p2 p3 p4 p5 : Int32}
theorem shop_has {ns : Nat} {a : Int32} (hs : ns ≤ 1000) : (¬ a < 0 ∧ ¬ nI ns ≤ a) ↔ (¬ a < 0 ∧ ¬ nI ns - 1 < a) := by
  constructor
  · rintro ⟨h1, h2⟩
    obtain ⟨j, hj, rfl⟩ := rngL h1 h2 (by omega)
    refine ⟨h1, ?_⟩
    have e : nI ns - 1 = nI (ns - 1) := by
      have : nI ns - nI 1 = nI (ns - 1) := pk_sub (by omega)
      exact this
    rw [e]
    exact nI_nlt (by omega) (by omega)
  · rintro ⟨h1, h2⟩
    refine ⟨h1, fun h => ?_⟩
    obtain ⟨j, hj, rfl⟩ := nI_of h1
    have h3 : ns ≤ j := (nI_leI (by omega) hj).mp h
    cases ns with
    | zero => exact h2 (by rw [Int32.lt_iff_toInt_lt, nI_toInt hj, nI_0]; have : ((0 : Int32) - 1).toInt = -1 := rfl; omega)
    | succ k =>
      rw [nI_pred] at h2
      exact h2 (nI_lt (by omega) hj)
theorem op_feet (hI : Inv σ) : vt_Mi g 2 D_X11_feet [.ref (g.2.1 0), .int p1, .int p2] σ (fun r σ1 => vt_Mi g 2 D_X12_feet [.ref (g.2.1 168), .int p1, .int p2] σ1 (fun r' σ2 => r = r' ∧ Inv σ2)) := by
  refine mI ok_X11_feet.1 rfl rfl rfl (s_X11_feet_0 g σ _ p1 p2 ⟨fun c1 => ⟨fun c2 => ?_, fun c2 => ?_⟩, fun c1 => ?_⟩)
  · obtain ⟨⟨t, nd, ns, nm, nl, lv, hN, hF, hR, hD, hS, hM, hL, hE, hV⟩, h2⟩ := hI
    obtain ⟨p, hp, rfl⟩ := rng c1.1 c1.2 (n := 11) rfl
    obtain ⟨v, hv, rfl⟩ := rng (fun q => c2.1 (Int32.lt_trans q (by decide))) c2.2 (n := 999) rfl
    have hv10 : 10 ≤ v := Nat.le_of_not_lt fun q => c2.1 (by have := nI_lt q (by omega); exact this)
    have e1 : (10 : Int32) + nI p = nI (10 + p) := nI_add 10 p
    refine ⟨inN (by omega) (by omega), _, rfl, mI ok_X12_feet.1 rfl rfl rfl (s_X12_feet_0 g _ _ (nI p) (nI v) ⟨fun _ => ⟨fun _ => ?_, fun c => absurd c2 c⟩, fun c => absurd c1 c⟩)⟩
    rw [e1, nI_clamp (by omega), nI_clamp (by omega)]
    refine ⟨inN (by omega) (by omega), _, rfl, ?_, ?_⟩
    · exact ((hF p (by omega)).1).symm
    · refine ⟨⟨t, nd, ns, nm, nl, lv, hN.fr (fun j hj => upd_ne (by omega)), fun q hq => ?_, hR.fr (fun j _ _ => upd_ne (by omega)), hD.fr hN.1.2.1 (fun j _ _ => upd_ne (by omega)), hS.fr hN.1.2.2.1 (fun j _ _ => upd_ne (by omega)), hM.fr hN.1.2.2.2.1 (fun j _ _ => upd_ne (by omega)), hL.fr hN.1.2.2.2.2.1 (fun j _ _ => upd_ne (by omega)), (hE.cg hN.1.2.2.1 (fun s hs => by simp (disch := omega) only [su_ne]) (fun s hs => by simp (disch := omega) only [su_ne])).fr hN.1.2.2.1 (fun j _ _ => upd_ne (by omega)) (fun j _ _ => upd_ne (by omega)), hV.fr hN.1.2.2.2.2.2 (fun j _ _ => upd_ne (by omega))⟩, h2.1.cg (fun k hk => by simp (disch := omega) only [su_ne]), h2.2⟩
      show upd (σ 169) (10 + p) (nI v) (10 + q) = upd (σ 2) p (nI v) q ∧ ∃ w, 10 ≤ w ∧ w ≤ 999 ∧ upd (σ 2) p (nI v) q = nI w
      by_cases e : q = p
      · subst e
        rw [upd_same, upd_same]
        exact ⟨rfl, v, hv10, by omega, rfl⟩
      · rw [upd_ne e, upd_ne (by omega)]
        exact hF q hq
  · exact ⟨_, rfl, mI ok_X12_feet.1 rfl rfl rfl (s_X12_feet_0 g _ _ p1 p2 ⟨fun _ => ⟨fun c => absurd c c2, fun _ => ⟨_, rfl, rfl, hI⟩⟩, fun c => absurd c1 c⟩)⟩
  · exact ⟨_, rfl, mI ok_X12_feet.1 rfl rfl rfl (s_X12_feet_0 g _ _ p1 p2 ⟨fun c => absurd c c1, fun _ => ⟨_, rfl, rfl, hI⟩⟩)⟩
theorem op_trim (hI : Inv σ) : vt_Mi g 1 D_X11_trim [.ref (g.2.1 0), .int p1] σ (fun r σ1 => vt_Mi g 1 D_X12_trim [.ref (g.2.1 168), .int p1] σ1 (fun r' σ2 => r = r' ∧ Inv σ2)) := by
  obtain ⟨hA, hi, ⟨n, hn, e1, e2, hb⟩, hw, hs⟩ := id hI
  refine mI ok_X11_trim.1 rfl rfl rfl (s_X11_trim_0 g σ _ p1 ⟨fun c1 => ?_, fun c1 => ?_⟩)
  · refine ⟨_, rfl, mI ok_X12_trim.1 rfl rfl rfl (s_X12_trim_0 g _ _ p1 ⟨fun _ => ⟨_, rfl, rfl, hA.cg (fun k hk => by simp (disch := omega) only [su_ne]), hi.cg (fun k hk => by simp (disch := omega) only [su_ne]), ?_, hw, hs⟩, fun c => absurd c1 (by rw [e1, ← e2]; exact c)⟩)⟩
    rw [e1] at c1
    obtain ⟨m, hm, rfl⟩ := rng c1.1 c1.2 (n := n) (nI_toInt (by omega))
    exact ⟨m, by omega, rfl, rfl, fun i hi => hb i (by omega)⟩
  · exact ⟨_, rfl, mI ok_X12_trim.1 rfl rfl rfl (s_X12_trim_0 g _ _ p1 ⟨fun c => absurd c (by rw [e2, ← e1]; exact c1), fun _ => ⟨_, rfl, rfl, hI⟩⟩)⟩
theorem op_tell (hI : Inv σ) : vt_Mi g 0 D_X11_tell [.ref (g.2.1 0), .int p1] σ (fun r σ1 => vt_Mi g 0 D_X12_tell [.ref (g.2.1 168), .int p1] σ1 (fun r' σ2 => r = r' ∧ Inv σ2)) := by
  obtain ⟨hA, hi, ht, ⟨w, hw, e1, e2, hb⟩, hs⟩ := id hI
  refine mI ok_X11_tell.1 rfl rfl rfl (s_X11_tell_0 g σ _ p1 ⟨fun c1 => ?_, fun c1 => ?_⟩)
  · rw [e1] at c1 ⊢
    have hw2 : w < 24 := (nI_ltI (b := 24) (by omega) (by omega)).mp c1
    rw [nI_clamp (by omega), nI_1]
    refine ⟨inN hw2 (by omega), _, rfl, mI ok_X12_tell.1 rfl rfl rfl (s_X12_tell_0 g _ _ p1 ⟨fun _ => ?_, fun c => ?_⟩)⟩
    · show vp_in (σ 168 6) 24 ∧ _
      have e2' : (su (su σ 167 (upd (σ 167) w p1)) 0 (upd (σ 0) 10 (nI (w + 1)))) 168 6 = nI w := e2
      rw [e2', e2, nI_clamp (by omega), nI_1]
      refine ⟨inN hw2 (by omega), _, rfl, rfl, hA.cg (fun k hk => by simp (disch := omega) only [su_ne]), hi.cg (fun k hk => by simp (disch := omega) only [su_ne]), ht, ⟨w + 1, by omega, rfl, rfl, fun i hi => ?_⟩, hs⟩
      show upd (σ 167) w p1 i = upd (σ 172) w p1 i
      by_cases e : i = w
      · subst e; rw [upd_same, upd_same]
      · rw [upd_ne e, upd_ne e]; exact hb i (by omega)
    · have c' : nI w = nI 24 := by rw [← e2]; exact c
      exact absurd (nI_inj c' (by omega) (by omega)) (by omega)
  · rw [e1] at c1
    have hw2 : w = 24 := by
      have : ¬ w < 24 := fun q => c1 (show nI w < nI 24 from nI_lt q (by omega))
      omega
    subst hw2
    exact ⟨_, rfl, mI ok_X12_tell.1 rfl rfl rfl (s_X12_tell_0 g _ _ p1 ⟨fun c => absurd e2 c, fun _ => ⟨_, rfl, rfl, hI⟩⟩)⟩
theorem lin (a b d : Nat) : nI a + nI b * nI d = nI (a + b * d) := by rw [pk_mul, nI_add]
theorem lin1 (a b d : Nat) : nI a + nI b * nI d + 1 = nI (a + b * d + 1) := by rw [pk_mul, nI_add, nI_1]
theorem op_people (hI : Inv σ) : vt_Mi g 2 D_X11_people [.ref (g.2.1 0), .int p1, .int p2] σ (fun r σ1 => vt_Mi g 1 D_X12_people [.ref (g.2.1 168), .int p1, .int p2] σ1 (fun r' σ2 => r = r' ∧ Inv σ2)) := by
  obtain ⟨⟨t, nd, ns, nm, nl, lv, hN, hF, hR, hD, hS, hM, hL, hE, hV⟩, h2⟩ := id hI
  have hd1 : σ 4 2 = nI nd := hN.2.1.2.2.1
  have hd2 : σ 169 1 = nI nd := hN.2.2.2.1
  have hd4 : nd ≤ 4 := hN.1.2.1
  refine mI ok_X11_people.1 rfl rfl rfl (s_X11_people_0 g σ _ p1 p2 ⟨fun c1 => ⟨fun c2 => ?_, fun c2 => ?_⟩, fun c1 => ?_⟩)
  · rw [hd1] at c1
    have c1' := (shop_has (by omega)).mp c1
    obtain ⟨d, hd, rfl⟩ := rngL c1.1 c1.2 (by omega)
    have e1 : (22 : Int32) + 2 * nI d + 1 = nI (22 + 2 * d + 1) := lin1 22 2 d
    refine ⟨inN (by omega) (by omega), _, rfl, mI ok_X12_people.1 rfl rfl rfl (s_X12_people_0 g _ _ (nI d) p2 ⟨fun _ => ⟨fun _ => ?_, fun c => absurd c2 c⟩, fun c => absurd (by show ¬ nI d < 0 ∧ ¬ σ 169 1 - 1 < nI d; rw [hd2]; exact c1') c⟩)⟩
    rw [e1, nI_clamp (by omega), nI_clamp (by omega)]
    refine ⟨inN (by omega) (by omega), _, rfl, ?_, ?_⟩
    · show σ 6 d = σ 169 (22 + 2 * d + 1)
      rw [show 22 + 2 * d + 1 = 23 + 2 * d by omega]
      exact ((hD d hd).2).symm
    · refine ⟨⟨t, nd, ns, nm, nl, lv, hN.fr (fun j hj => upd_ne (by omega)), hF.fr (fun j _ _ => upd_ne (by omega)), hR.fr (fun j _ _ => upd_ne (by omega)), fun q hq => ?_, hS.fr hN.1.2.2.1 (fun j _ _ => upd_ne (by omega)), hM.fr hN.1.2.2.2.1 (fun j _ _ => upd_ne (by omega)), hL.fr hN.1.2.2.2.2.1 (fun j _ _ => upd_ne (by omega)), (hE.cg hN.1.2.2.1 (fun s hs => by simp (disch := omega) only [su_ne]) (fun s hs => by simp (disch := omega) only [su_ne])).fr hN.1.2.2.1 (fun j _ _ => upd_ne (by omega)) (fun j _ _ => upd_ne (by omega)), hV.fr hN.1.2.2.2.2.2 (fun j _ _ => upd_ne (by omega))⟩, h2.1.cg (fun k hk => by simp (disch := omega) only [su_ne]), h2.2⟩
      show upd (σ 169) (22 + 2 * d + 1) p2 (22 + 2 * q) = σ 5 q ∧ upd (σ 169) (22 + 2 * d + 1) p2 (23 + 2 * q) = upd (σ 6) d p2 q
      rw [upd_ne (by omega)]
      refine ⟨(hD q hq).1, ?_⟩
      by_cases e : q = d
      · subst e
        rw [show 23 + 2 * q = 22 + 2 * q + 1 by omega, upd_same, upd_same]
      · rw [upd_ne e, upd_ne (by omega)]
        exact (hD q hq).2
  · rw [hd1] at c1
    exact ⟨_, rfl, mI ok_X12_people.1 rfl rfl rfl (s_X12_people_0 g _ _ p1 p2 ⟨fun _ => ⟨fun c => absurd c c2, fun _ => ⟨_, rfl, rfl, hI⟩⟩, fun c => absurd (by rw [hd2]; exact (shop_has (by omega)).mp c1) c⟩)⟩
  · rw [hd1] at c1
    exact ⟨_, rfl, mI ok_X12_people.1 rfl rfl rfl (s_X12_people_0 g _ _ p1 p2 ⟨fun c => absurd ((shop_has (by omega)).mpr (by rw [← hd2]; exact c)) c1, fun _ => ⟨_, rfl, rfl, hI⟩⟩)⟩
theorem op_door (hI : Inv σ) : vt_Mi g 2 D_X11_door [.ref (g.2.1 0), .int p1, .int p2] σ (fun r σ1 => vt_Mi g 2 D_X12_door [.ref (g.2.1 168), .int p1, .int p2] σ1 (fun r' σ2 => r = r' ∧ Inv σ2)) := by
  obtain ⟨⟨t, nd, ns, nm, nl, lv, hN, hF, hR, hD, hS, hM, hL, hE, hV⟩, h2⟩ := id hI
  have hd1 : σ 4 2 = nI nd := hN.2.1.2.2.1
  have hd2 : σ 169 1 = nI nd := hN.2.2.2.1
  have hd4 : nd ≤ 4 := hN.1.2.1
  refine mI ok_X11_door.1 rfl rfl rfl (s_X11_door_0 g σ _ p1 p2 ⟨fun c1 => ⟨fun c2 => ⟨fun c3 => ?_, fun c3 => ?_⟩, fun c2 => ?_⟩, fun c1 => ?_⟩)
  · rw [hd1] at c3
    have hd3 : nd < 4 := (nI_ltI (b := 4) (by omega) (by omega)).mp c3
    refine mI ok_X3_add.1 rfl rfl rfl (s_X3_add_0 g σ _ p1 p2 ?_)
    rw [hd1, nI_clamp (by omega), nI_1]
    refine ⟨inN hd3 (by omega), _, rfl, _, rfl, mI ok_X12_door.1 rfl rfl rfl (s_X12_door_0 g _ _ p1 p2 ⟨fun _ => ⟨fun _ => ⟨fun _ => ?_, fun c => ?_⟩, fun c => absurd c2 c⟩, fun c => absurd c1 c⟩)⟩
    · have e0 : su (su (su σ 5 (upd (σ 5) nd p1)) 6 (upd (σ 6) nd p2)) 4 (upd (σ 4) 2 (nI (nd + 1))) 169 = σ 169 := rfl
      have e1 : (22 : Int32) + 2 * nI nd + 1 = nI (22 + 2 * nd + 1) := lin1 22 2 nd
      have e2 : (22 : Int32) + 2 * nI nd = nI (22 + 2 * nd) := lin 22 2 nd
      rw [e0, hd2, e1, e2, nI_clamp (by omega), nI_clamp (by omega), upd_ne (by omega), upd_ne (by omega), hd2, nI_1]
      refine ⟨inN (by omega) (by omega), inN (by omega) (by omega), _, rfl, ?_, ?_⟩
      · rw [nI_pred]
      · rw [su_su, su_su]
        have hn : ∀ j, j ≠ 1 → j ≠ 22 + 2 * nd → j ≠ 22 + 2 * nd + 1 → upd (upd (upd (σ 169) (22 + 2 * nd) p1) (22 + 2 * nd + 1) p2) 1 (nI (nd + 1)) j = σ 169 j := fun j a b c => by rw [upd_ne a, upd_ne c, upd_ne b]
        have hn1 : upd (upd (upd (σ 169) (22 + 2 * nd) p1) (22 + 2 * nd + 1) p2) 1 (nI (nd + 1)) 1 = nI (nd + 1) := upd_same
        have hn2 : upd (upd (upd (σ 169) (22 + 2 * nd) p1) (22 + 2 * nd + 1) p2) 1 (nI (nd + 1)) (22 + 2 * nd) = p1 := by rw [upd_ne (by omega), upd_ne (by omega), upd_same]
        have hn3 : upd (upd (upd (σ 169) (22 + 2 * nd) p1) (22 + 2 * nd + 1) p2) 1 (nI (nd + 1)) (23 + 2 * nd) = p2 := by rw [upd_ne (by omega), show 23 + 2 * nd = 22 + 2 * nd + 1 by omega, upd_same]
        generalize upd (upd (upd (σ 169) (22 + 2 * nd) p1) (22 + 2 * nd + 1) p2) 1 (nI (nd + 1)) = n' at hn hn1 hn2 hn3
        refine ⟨⟨t, nd + 1, ns, nm, nl, lv, ⟨⟨hN.1.1, by omega, hN.1.2.2⟩, ⟨hN.2.1.1, hN.2.1.2.1, rfl, hN.2.1.2.2.2⟩, ⟨(hn 0 (by omega) (by omega) (by omega)).trans hN.2.2.1, hn1, (hn 2 (by omega) (by omega) (by omega)).trans hN.2.2.2.2.1, (hn 3 (by omega) (by omega) (by omega)).trans hN.2.2.2.2.2.1, (hn 4 (by omega) (by omega) (by omega)).trans hN.2.2.2.2.2.2.1, (hn 7 (by omega) (by omega) (by omega)).trans hN.2.2.2.2.2.2.2⟩⟩, hF.fr (fun j _ _ => hn j (by omega) (by omega) (by omega)), hR.fr (fun j _ _ => hn j (by omega) (by omega) (by omega)), fun q hq => ?_, hS.fr hN.1.2.2.1 (fun j _ _ => hn j (by omega) (by omega) (by omega)), hM.fr hN.1.2.2.2.1 (fun j _ _ => hn j (by omega) (by omega) (by omega)), hL.fr hN.1.2.2.2.2.1 (fun j _ _ => hn j (by omega) (by omega) (by omega)), (hE.cg hN.1.2.2.1 (fun s hs => by simp (disch := omega) only [su_ne]) (fun s hs => by simp (disch := omega) only [su_ne])).fr hN.1.2.2.1 (fun j _ _ => hn j (by omega) (by omega) (by omega)) (fun j _ _ => hn j (by omega) (by omega) (by omega)), hV.fr hN.1.2.2.2.2.2 (fun j _ _ => hn j (by omega) (by omega) (by omega))⟩, h2.1.cg (fun k hk => by simp (disch := omega) only [su_ne]), h2.2⟩
        show n' (22 + 2 * q) = upd (σ 5) nd p1 q ∧ n' (23 + 2 * q) = upd (σ 6) nd p2 q
        by_cases e : q = nd
        · subst e
          rw [upd_same, upd_same]
          exact ⟨hn2, hn3⟩
        · rw [upd_ne e, upd_ne e, hn _ (by omega) (by omega) (by omega), hn _ (by omega) (by omega) (by omega)]
          exact hD q (by omega)
    · exact absurd (nI_inj (a := nd) (b := 4) (by rw [← hd2]; exact c) (by omega) (by omega)) (by omega)
  · rw [hd1] at c3
    have hd3 : nd = 4 := by
      have : ¬ nd < 4 := fun q => c3 (show nI nd < nI 4 from nI_lt q (by omega))
      omega
    subst hd3
    exact ⟨_, rfl, mI ok_X12_door.1 rfl rfl rfl (s_X12_door_0 g _ _ p1 p2 ⟨fun _ => ⟨fun _ => ⟨fun c => absurd hd2 c, fun _ => ⟨_, rfl, rfl, hI⟩⟩, fun c => absurd c2 c⟩, fun c => absurd c1 c⟩)⟩
  · exact ⟨_, rfl, mI ok_X12_door.1 rfl rfl rfl (s_X12_door_0 g _ _ p1 p2 ⟨fun _ => ⟨fun c => absurd c c2, fun _ => ⟨_, rfl, rfl, hI⟩⟩, fun c => absurd c1 c⟩)⟩
  · exact ⟨_, rfl, mI ok_X12_door.1 rfl rfl rfl (s_X12_door_0 g _ _ p1 p2 ⟨fun c => absurd c c1, fun _ => ⟨_, rfl, rfl, hI⟩⟩)⟩
end OPS1
