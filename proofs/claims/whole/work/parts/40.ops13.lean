/-! OPERATIONS: rent, rents -/
section OPS13
variable {g : vt_GT} {σ : vt_Sg} {p1 p2 p3 p4 p5 : Int32}
theorem op_rent (hI : Inv σ) : vt_Mi g 6 D_X11_rent [.ref (g.2.1 0), .int p1, .int p2, .int p3] σ (fun r σ1 => vt_Mi g 6 D_X12_rent [.ref (g.2.1 168), .int p1, .int p2, .int p3] σ1 (fun r' σ2 => r = r' ∧ Inv σ2)) := by
  obtain ⟨⟨t, nd, ns, nm, nl, lv, hN, hF, hR, hD, hS, hM, hL, hE, hV⟩, h2⟩ := id hI
  obtain ⟨⟨bt, bd, bs, bm, bl, bv⟩, ⟨xt, xv, xd, xs, xm, xl⟩, ⟨yt, yd, ys, ym, yl, yv⟩⟩ := id hN
  have xt : σ 1 9 = nI t := xt
  have xv : σ 1 8 = nI lv := xv
  have xd : σ 4 2 = nI nd := xd
  have xs : σ 7 7 = nI ns := xs
  have xm : σ 15 3 = nI nm := xm
  have xl : σ 19 5 = nI nl := xl
  have hD : A_doors nd (σ 5) (σ 6) (σ 169) := hD
  have hS : A_shops ns (σ 8) (σ 9) (σ 10) (σ 11) (σ 12) (σ 13) (σ 14) (σ 169) := hS
  obtain ⟨ms, mt, mp, hmv⟩ := id hM
  have hmv : A_mv t ns nm (σ 16) (σ 17) (σ 18) (σ 169) ms mt mp := hmv
  have hRel : RelN t nd ns nm nl lv (fun k => σ (1 + k)) (σ 169) := ⟨hN, hF, hR, hD, hS, hM, hL, hE, hV⟩
  have hs : ∀ a : Int32, (¬ a < 0 ∧ ¬ σ 7 7 ≤ a) ↔ (¬ a < 0 ∧ ¬ σ 169 2 - 1 < a) := fun a => by rw [xs, ys]; exact shop_has (by omega)
  have hmo : ∀ a : Int32, (¬ a < 0 ∧ ¬ σ 1 9 < a) ↔ (¬ a < 0 ∧ ¬ σ 169 0 < a) := fun a => by rw [xt, yt]
  refine mI ok_X11_rent.1 rfl rfl rfl (s_X11_rent_0 g σ _ p1 p2 p3 ⟨fun c1 => ⟨fun c2 => ⟨fun c3 => ?_, fun c3 => ⟨_, rfl, mI ok_X12_rent.1 rfl rfl rfl (s_X12_rent_0 g _ _ p1 p2 p3 ⟨fun _ => ⟨fun _ => ⟨fun c => absurd ((hmo p3).mpr c) c3, fun _ => ⟨_, rfl, rfl, hI⟩⟩, fun c => absurd ((hmo p2).mp c2) c⟩, fun c => absurd ((hs p1).mp c1) c⟩)⟩⟩, fun c2 => ⟨_, rfl, mI ok_X12_rent.1 rfl rfl rfl (s_X12_rent_0 g _ _ p1 p2 p3 ⟨fun _ => ⟨fun c => absurd ((hmo p2).mpr c) c2, fun _ => ⟨_, rfl, rfl, hI⟩⟩, fun c => absurd ((hs p1).mp c1) c⟩)⟩⟩, fun c1 => ⟨_, rfl, mI ok_X12_rent.1 rfl rfl rfl (s_X12_rent_0 g _ _ p1 p2 p3 ⟨fun c => absurd ((hs p1).mpr c) c1, fun _ => ⟨_, rfl, rfl, hI⟩⟩)⟩⟩)
  have c2' := (hmo p2).mp c2
  have c3' := (hmo p3).mp c3
  have c1' := (hs p1).mp c1
  rw [xt] at c2
  rw [xs] at c1
  obtain ⟨m, hm, rfl⟩ := rngM bt c2
  obtain ⟨s, hss, rfl⟩ := rngL c1.1 c1.2 (by omega)
  refine c_X2_look (σ := σ) (n := σ 169) hmv xm bm bs xs bd xd bt (m := m) (by omega) _ (fun τ hl hm1 hC => ?_)
  have hA := hmv.inj bs m
  have hlt := hmv.lt m
  generalize hAA : (fun s => plc ms mt mp m s nm) = A at hC hA
  have hlt : ∀ s, ns ≤ s → A s = none := fun s hs => by rw [← hAA]; exact hlt s hs
  have W : WX σ A nd m τ := ⟨fun k hk => hl.at k (by omega), hC, hm1⟩
  have FS : ∀ τ', WX σ A nd m τ' → ∀ Φ : vt_Sg → Prop, (∀ υ, WM σ A υ → Φ υ) → vt_Mv g 1 D_X12_findStands [.ref (g.2.1 168), .int (nI m)] τ' Φ := fun τ' w Φ h => by
    have e : τ' 169 = σ 169 := w.1 169 (by omega)
    exact c_X12_findStands (σ := τ') (t := t) (ns := ns) (nm := nm) (m1 := σ 16) (m2 := σ 17) (m3 := σ 18) (ms := ms) (mt := mt) (mp := mp) (by rw [e]; exact ys) (by rw [e]; exact ym) bm (by rw [e]; exact hmv) bs bt (by omega) Φ (fun f hf => h _ ⟨fun k hk => by rw [su_ne (by omega)]; exact w.1 k (by omega), fun s hs => by show f s = _; rw [hf s hs, ← hAA]⟩)
  have IV : ∀ υ, WM σ A υ → Inv υ := fun υ w => hI.fr (fun k hk => w.1 k (by omega))
  obtain ⟨R, RX, RM⟩ := rent_val (g := g) (m := m) hRel hA hlt c3.1 hss
  refine RX τ W _ (fun τ' w => ⟨_, rfl, mI ok_X12_rent.1 rfl rfl rfl (s_X12_rent_0 g τ' _ (nI s) (nI m) p3 ⟨fun _ => ⟨fun _ => ⟨fun _ => FS τ' w _ (fun υ wu => RM υ wu _ (fun υ' wu' => ⟨_, rfl, rfl, IV υ' wu'⟩)), fun c => absurd ?_ c⟩, fun c => absurd ?_ c⟩, fun c => absurd ?_ c⟩)⟩)
  all_goals rw [w.1 169 (by omega)]
  · exact c3'
  · exact c2'
  · exact c1'
theorem op_rents (hI : Inv σ) : vt_Mi g 6 D_X11_rents [.ref (g.2.1 0), .int p1, .int p2] σ (fun r σ1 => vt_Mi g 6 D_X12_rents [.ref (g.2.1 168), .int p1, .int p2] σ1 (fun r' σ2 => r = r' ∧ Inv σ2)) := by
  obtain ⟨⟨t, nd, ns, nm, nl, lv, hN, hF, hR, hD, hS, hM, hL, hE, hV⟩, h2⟩ := id hI
  obtain ⟨⟨bt, bd, bs, bm, bl, bv⟩, ⟨xt, xv, xd, xs, xm, xl⟩, ⟨yt, yd, ys, ym, yl, yv⟩⟩ := id hN
  have xt : σ 1 9 = nI t := xt
  have xv : σ 1 8 = nI lv := xv
  have xd : σ 4 2 = nI nd := xd
  have xs : σ 7 7 = nI ns := xs
  have xm : σ 15 3 = nI nm := xm
  have xl : σ 19 5 = nI nl := xl
  have hD : A_doors nd (σ 5) (σ 6) (σ 169) := hD
  have hS : A_shops ns (σ 8) (σ 9) (σ 10) (σ 11) (σ 12) (σ 13) (σ 14) (σ 169) := hS
  obtain ⟨ms, mt, mp, hmv⟩ := id hM
  have hmv : A_mv t ns nm (σ 16) (σ 17) (σ 18) (σ 169) ms mt mp := hmv
  have hRel : RelN t nd ns nm nl lv (fun k => σ (1 + k)) (σ 169) := ⟨hN, hF, hR, hD, hS, hM, hL, hE, hV⟩
  have hmo : ∀ a : Int32, (¬ a < 0 ∧ ¬ σ 1 9 < a) ↔ (¬ a < 0 ∧ ¬ σ 169 0 < a) := fun a => by rw [xt, yt]
  refine mI ok_X11_rents.1 rfl rfl rfl (s_X11_rents_0 g σ _ p1 p2 ⟨fun c1 => ⟨fun c2 => ?_, fun c2 => ⟨_, rfl, mI ok_X12_rents.1 rfl rfl rfl (s_X12_rents_0 g _ _ p1 p2 ⟨fun _ => ⟨fun c => absurd ((hmo p2).mpr c) c2, fun _ => ⟨_, rfl, rfl, hI⟩⟩, fun c => absurd ((hmo p1).mp c1) c⟩)⟩⟩, fun c1 => ⟨_, rfl, mI ok_X12_rents.1 rfl rfl rfl (s_X12_rents_0 g _ _ p1 p2 ⟨fun c => absurd ((hmo p1).mpr c) c1, fun _ => ⟨_, rfl, rfl, hI⟩⟩)⟩⟩)
  have c1' := (hmo p1).mp c1
  have c2' := (hmo p2).mp c2
  rw [xt] at c1
  obtain ⟨m, hm, rfl⟩ := rngM bt c1
  refine c_X2_look (σ := σ) (n := σ 169) hmv xm bm bs xs bd xd bt (m := m) (by omega) _ (fun τ hl hm1 hC => ?_)
  have hA := hmv.inj bs m
  have hlt := hmv.lt m
  generalize hAA : (fun s => plc ms mt mp m s nm) = A at hC hA
  have hlt : ∀ s, ns ≤ s → A s = none := fun s hs => by rw [← hAA]; exact hlt s hs
  have W : WX σ A nd m τ := ⟨fun k hk => hl.at k (by omega), hC, hm1⟩
  have FS : ∀ τ', WX σ A nd m τ' → ∀ Φ : vt_Sg → Prop, (∀ υ, WM σ A υ → Φ υ) → vt_Mv g 1 D_X12_findStands [.ref (g.2.1 168), .int (nI m)] τ' Φ := fun τ' w Φ h => by
    have e : τ' 169 = σ 169 := w.1 169 (by omega)
    exact c_X12_findStands (σ := τ') (t := t) (ns := ns) (nm := nm) (m1 := σ 16) (m2 := σ 17) (m3 := σ 18) (ms := ms) (mt := mt) (mp := mp) (by rw [e]; exact ys) (by rw [e]; exact ym) bm (by rw [e]; exact hmv) bs bt (by omega) Φ (fun f hf => h _ ⟨fun k hk => by rw [su_ne (by omega)]; exact w.1 k (by omega), fun s hs => by show f s = _; rw [hf s hs, ← hAA]⟩)
  have IV : ∀ υ, WM σ A υ → Inv υ := fun υ w => hI.fr (fun k hk => w.1 k (by omega))
  have ex : ∀ s, ∃ R : Int32, s < ns → (∀ τ, WX σ A nd m τ → ∀ Φ : Int32 → vt_Sg → Prop, (∀ τ', WX σ A nd m τ' → Φ R τ') → vt_Mi g 5 D_X11_rentOf [.ref (g.2.1 0), .int (nI s), .int p2] τ Φ) ∧ (∀ υ, WM σ A υ → ∀ Φ : Int32 → vt_Sg → Prop, (∀ υ', WM σ A υ' → Φ R υ') → vt_Mi g 5 D_X12_rentOf [.ref (g.2.1 168), .int (nI s), .int (nI m), .int p2] υ Φ) := by
    intro s
    by_cases q : s < ns
    · obtain ⟨R, h⟩ := rent_val (g := g) (m := m) hRel hA hlt c2.1 q
      exact ⟨R, fun _ => h⟩
    · exact ⟨0, fun z => absurd z q⟩
  obtain ⟨R, hR⟩ := Classical.axiomOfChoice ex
  refine lpS ns (fun i τ => TT g (vt_R 6) 0 0 D_X11_rents none 32 [some (.ref (g.2.1 0)), some (.int (nI m)), some (.int p2), some (.int (sm i R)), some (.int (nI i))] [] τ (fun v σ' => ∃ r, v = some (Value.int r) ∧ vt_Mi g 6 D_X12_rents [.ref (g.2.1 168), .int (nI m), .int p2] σ' (fun r' σ2 => r = r' ∧ Inv σ2))) (fun _ τ => WX σ A nd m τ) ?_ ?_ 0 τ (by omega) W
  · intro τ w
    have f7 : τ 7 7 = nI ns := by rw [w.1 7 (by omega)]; exact xs
    refine s_X11_rents_32 g _ _ _ _ _ _ ⟨fun _ => ⟨_, rfl, mI ok_X12_rents.1 rfl rfl rfl (s_X12_rents_0 g τ _ (nI m) p2 ⟨fun _ => ⟨fun _ => FS τ w _ (fun υ wu => ?_), fun c => absurd (by rw [w.1 169 (by omega)]; exact c2') c⟩, fun c => absurd (by rw [w.1 169 (by omega)]; exact c1') c⟩)⟩, fun c => absurd (by rw [f7]; exact nI_le (Nat.le_refl _) (by omega)) c⟩
    refine lpS ns (fun i υ => TT g (vt_R 6) 0 0 D_X12_rents none 29 [some (.ref (g.2.1 168)), some (.int (nI m)), some (.int p2), some (.int (sm i R)), some (.int (nI i))] [] υ (fun v σ' => ∃ r', v = some (Value.int r') ∧ sm ns R = r' ∧ Inv σ')) (fun _ υ => WM σ A υ) ?_ ?_ 0 υ (by omega) wu
    · intro υ wu
      have y2 : υ 169 2 = nI ns := by rw [wu.1 169 (by omega)]; exact ys
      exact s_X12_rents_29 g _ _ _ _ _ _ ⟨fun _ => ⟨_, rfl, rfl, IV υ wu⟩, fun c => absurd (by rw [y2]; exact nI_le (Nat.le_refl _) (by omega)) c⟩
    · intro i υ hi wu ih
      have y2 : υ 169 2 = nI ns := by rw [wu.1 169 (by omega)]; exact ys
      refine s_X12_rents_29 g _ _ _ _ _ _ ⟨fun c => absurd (by rw [y2] at c; exact c) (nI_ge hi (by omega)), fun _ => (hR i hi).2 υ wu _ (fun υ' wu' => ?_)⟩
      rw [nI_1]
      exact ih υ' wu'
  · intro i τ hi w ih
    have f7 : τ 7 7 = nI ns := by rw [w.1 7 (by omega)]; exact xs
    refine s_X11_rents_32 g _ _ _ _ _ _ ⟨fun c => absurd (by rw [f7] at c; exact c) (nI_ge hi (by omega)), fun _ => (hR i hi).1 τ w _ (fun τ' w' => ?_)⟩
    rw [nI_1]
    exact ih τ' w'
end OPS13
