/-! OPERATIONS: past, stands, beyond -/
section OPS8
variable {g : vt_GT} {σ : vt_Sg} {p1 p2 p3 p4 p5 : Int32}
theorem Fl.at {σ τ : vt_Sg} (h : Fl σ τ) (k : Nat) (hk : k < 116 ∨ 120 < k) : τ k = σ k := h k (by omega) (by omega) (by omega) (by omega) (by omega)
theorem rngM {x : Int32} {t : Nat} (ht : t ≤ 120) (h : ¬ x < 0 ∧ ¬ nI t < x) : ∃ m : Nat, m ≤ t ∧ x = nI m := rng h.1 h.2 (nI_toInt (by omega))
theorem op_past (hI : Inv σ) : vt_Mi g 3 D_X11_past [.ref (g.2.1 0), .int p1, .int p2] σ (fun r σ1 => vt_Mi g 3 D_X12_past [.ref (g.2.1 168), .int p1, .int p2] σ1 (fun r' σ2 => r = r' ∧ Inv σ2)) := by
  obtain ⟨⟨t, nd, ns, nm, nl, lv, hN, hF, hR, hD, hS, hM, hL, hE, hV⟩, h2⟩ := id hI
  obtain ⟨⟨bt, bd, bs, bm, bl, bv⟩, ⟨xt, xv, xd, xs, xm, xl⟩, ⟨yt, yd, ys, ym, yl, yv⟩⟩ := id hN
  have xt : σ 1 9 = nI t := xt
  have xv : σ 1 8 = nI lv := xv
  have xd : σ 4 2 = nI nd := xd
  have xs : σ 7 7 = nI ns := xs
  have xm : σ 15 3 = nI nm := xm
  have xl : σ 19 5 = nI nl := xl
  have hD : A_doors nd (σ 5) (σ 6) (σ 169) := hD
  have hS : A_shops ns (σ 8) (σ 9) (σ 10) (σ 11) (σ 12) (σ 13) (σ 14) (σ 169) := hS
  obtain ⟨ms, mt, mp, hmv⟩ := id hM
  have hmv : A_mv t ns nm (σ 16) (σ 17) (σ 18) (σ 169) ms mt mp := hmv
  have hmo : ∀ a : Int32, (¬ a < 0 ∧ ¬ σ 1 9 < a) ↔ (¬ a < 0 ∧ ¬ σ 169 0 < a) := fun a => by rw [xt, yt]
  refine mI ok_X11_past.1 rfl rfl rfl (s_X11_past_0 g σ _ p1 p2 ⟨fun c1 => ⟨fun c2 => ?_, fun c2 => ⟨_, rfl, mI ok_X12_past.1 rfl rfl rfl (s_X12_past_0 g _ _ p1 p2 ⟨fun _ => ⟨fun c => absurd ((hmo p2).mpr c) c2, fun _ => ⟨_, rfl, rfl, hI⟩⟩, fun c => absurd c1 c⟩)⟩⟩, fun c1 => ⟨_, rfl, mI ok_X12_past.1 rfl rfl rfl (s_X12_past_0 g _ _ p1 p2 ⟨fun c => absurd c c1, fun _ => ⟨_, rfl, rfl, hI⟩⟩)⟩⟩)
  have c2' := (hmo p2).mp c2
  rw [xt] at c2
  obtain ⟨m, hm, rfl⟩ := rngM bt c2
  obtain ⟨p, hp, rfl⟩ := rng c1.1 c1.2 (n := 11) rfl
  refine c_X2_look (σ := σ) (n := σ 169) hmv xm bm bs xs bd xd bt (m := m) (by omega) _ (fun τ hl hm1 hC => ?_)
  have hA := hmv.inj bs m
  have hlt := hmv.lt m
  generalize hAA : (fun s => plc ms mt mp m s nm) = A at hC hA
  have hlt : ∀ s, ns ≤ s → A s = none := fun s hs => by rw [← hAA]; exact hlt s hs
  have f169 : τ 169 = σ 169 := hl.at 169 (by omega)
  have f5 : τ 5 = σ 5 := hl.at 5 (by omega)
  have f6 : τ 6 = σ 6 := hl.at 6 (by omega)
  have f8 : τ 8 = σ 8 := hl.at 8 (by omega)
  have f9 : τ 9 = σ 9 := hl.at 9 (by omega)
  have f10 : τ 10 = σ 10 := hl.at 10 (by omega)
  have f11 : τ 11 = σ 11 := hl.at 11 (by omega)
  have f12 : τ 12 = σ 12 := hl.at 12 (by omega)
  have f13 : τ 13 = σ 13 := hl.at 13 (by omega)
  have f7 : τ 7 = σ 7 := hl.at 7 (by omega)
  have ST : ∀ Φ : vt_Sg → Prop, (∀ f : Nat → Int32, (∀ s, s < 12 → f s = opM (A s)) → Φ (su τ 175 f)) → vt_Mv g 1 D_X12_findStands [.ref (g.2.1 168), .int (nI m)] τ Φ := fun Φ h => c_X12_findStands (σ := τ) (t := t) (ns := ns) (nm := nm) (m1 := σ 16) (m2 := σ 17) (m3 := σ 18) (ms := ms) (mt := mt) (mp := mp) (by rw [f169]; exact ys) (by rw [f169]; exact ym) bm (by rw [f169]; exact hmv) bs bt (by omega) Φ (fun f hf => h f (fun s hs => by rw [hf s hs, ← hAA]))
  have IV : ∀ f, Inv (su τ 175 f) := fun f => hI.fr (fun k hk => by rw [su_ne (by omega)]; exact hl.at k (by omega))
  have S9 : ∀ f, su τ 175 f 169 = σ 169 := fun f => f169
  have S1 : ∀ f, su τ 175 f 169 1 = nI nd := fun f => by rw [S9]; exact yd
  have SS : ∀ f, A_shops ns (σ 8) (σ 9) (σ 10) (σ 11) (σ 12) (σ 13) (σ 14) (su τ 175 f 169) := fun f => by rw [S9]; exact hS
  have SD : ∀ f, A_doors nd (σ 5) (σ 6) (su τ 175 f 169) := fun f => by rw [S9]; exact hD
  refine ⟨inN (by omega) (by omega), _, rfl, mI ok_X12_past.1 rfl rfl rfl (s_X12_past_0 g _ _ (nI p) (nI m) ⟨fun _ => ⟨fun _ => ST _ (fun f hf => c_X12_passers (σ := su τ 175 f) hf hA hlt (SS f) (SD f) bd (S1 f) _ _ ⟨_, rfl, ?_, IV f⟩), fun c => absurd (by rw [f169]; exact c2') c⟩, fun c => absurd c1 c⟩)⟩
  rw [nI_clamp (by omega), hC.2.2.2.2 p (by omega), f5, f6, f10]
theorem op_stands (hI : Inv σ) : vt_Mi g 3 D_X11_stands [.ref (g.2.1 0), .int p1, .int p2, .int p3] σ (fun r σ1 => vt_Mi g 4 D_X12_stands [.ref (g.2.1 168), .int p1, .int p2, .int p3] σ1 (fun r' σ2 => r = r' ∧ Inv σ2)) := by
  obtain ⟨⟨t, nd, ns, nm, nl, lv, hN, hF, hR, hD, hS, hM, hL, hE, hV⟩, h2⟩ := id hI
  obtain ⟨⟨bt, bd, bs, bm, bl, bv⟩, ⟨xt, xv, xd, xs, xm, xl⟩, ⟨yt, yd, ys, ym, yl, yv⟩⟩ := id hN
  have xt : σ 1 9 = nI t := xt
  have xv : σ 1 8 = nI lv := xv
  have xd : σ 4 2 = nI nd := xd
  have xs : σ 7 7 = nI ns := xs
  have xm : σ 15 3 = nI nm := xm
  have xl : σ 19 5 = nI nl := xl
  have hD : A_doors nd (σ 5) (σ 6) (σ 169) := hD
  have hS : A_shops ns (σ 8) (σ 9) (σ 10) (σ 11) (σ 12) (σ 13) (σ 14) (σ 169) := hS
  obtain ⟨ms, mt, mp, hmv⟩ := id hM
  have hmv : A_mv t ns nm (σ 16) (σ 17) (σ 18) (σ 169) ms mt mp := hmv
  have hs : ∀ a : Int32, (¬ a < 0 ∧ ¬ σ 7 7 ≤ a) ↔ (¬ a < 0 ∧ ¬ σ 169 2 - 1 < a) := fun a => by rw [xs, ys]; exact shop_has (by omega)
  have hmo : ∀ a : Int32, (¬ a < 0 ∧ ¬ σ 1 9 < a) ↔ (¬ a < 0 ∧ ¬ σ 169 0 < a) := fun a => by rw [xt, yt]
  refine mI ok_X11_stands.1 rfl rfl rfl (s_X11_stands_0 g σ _ p1 p2 p3 ⟨fun c1 => ⟨fun c2 => ⟨fun c3 => ?_, fun c3 => ⟨_, rfl, mI ok_X12_stands.1 rfl rfl rfl (s_X12_stands_0 g _ _ p1 p2 p3 ⟨fun _ => ⟨fun _ => ⟨fun c => absurd c c3, fun _ => ⟨_, rfl, rfl, hI⟩⟩, fun c => absurd ((hmo p2).mp c2) c⟩, fun c => absurd ((hs p1).mp c1) c⟩)⟩⟩, fun c2 => ⟨_, rfl, mI ok_X12_stands.1 rfl rfl rfl (s_X12_stands_0 g _ _ p1 p2 p3 ⟨fun _ => ⟨fun c => absurd ((hmo p2).mpr c) c2, fun _ => ⟨_, rfl, rfl, hI⟩⟩, fun c => absurd ((hs p1).mp c1) c⟩)⟩⟩, fun c1 => ⟨_, rfl, mI ok_X12_stands.1 rfl rfl rfl (s_X12_stands_0 g _ _ p1 p2 p3 ⟨fun c => absurd ((hs p1).mpr c) c1, fun _ => ⟨_, rfl, rfl, hI⟩⟩)⟩⟩)
  have c2' := (hmo p2).mp c2
  have c1' := (hs p1).mp c1
  rw [xt] at c2
  rw [xs] at c1
  obtain ⟨m, hm, rfl⟩ := rngM bt c2
  obtain ⟨s, hss, rfl⟩ := rngL c1.1 c1.2 (by omega)
  refine c_X2_look (σ := σ) (n := σ 169) hmv xm bm bs xs bd xd bt (m := m) (by omega) _ (fun τ hl hm1 hC => ?_)
  have hA := hmv.inj bs m
  have hlt := hmv.lt m
  generalize hAA : (fun s => plc ms mt mp m s nm) = A at hC hA
  have hlt : ∀ s, ns ≤ s → A s = none := fun s hs => by rw [← hAA]; exact hlt s hs
  have f169 : τ 169 = σ 169 := hl.at 169 (by omega)
  have f5 : τ 5 = σ 5 := hl.at 5 (by omega)
  have f6 : τ 6 = σ 6 := hl.at 6 (by omega)
  have f8 : τ 8 = σ 8 := hl.at 8 (by omega)
  have f9 : τ 9 = σ 9 := hl.at 9 (by omega)
  have f10 : τ 10 = σ 10 := hl.at 10 (by omega)
  have f11 : τ 11 = σ 11 := hl.at 11 (by omega)
  have f12 : τ 12 = σ 12 := hl.at 12 (by omega)
  have f13 : τ 13 = σ 13 := hl.at 13 (by omega)
  have f7 : τ 7 = σ 7 := hl.at 7 (by omega)
  have ST : ∀ Φ : vt_Sg → Prop, (∀ f : Nat → Int32, (∀ s, s < 12 → f s = opM (A s)) → Φ (su τ 175 f)) → vt_Mv g 1 D_X12_findStands [.ref (g.2.1 168), .int (nI m)] τ Φ := fun Φ h => c_X12_findStands (σ := τ) (t := t) (ns := ns) (nm := nm) (m1 := σ 16) (m2 := σ 17) (m3 := σ 18) (ms := ms) (mt := mt) (mp := mp) (by rw [f169]; exact ys) (by rw [f169]; exact ym) bm (by rw [f169]; exact hmv) bs bt (by omega) Φ (fun f hf => h f (fun s hs => by rw [hf s hs, ← hAA]))
  have IV : ∀ f, Inv (su τ 175 f) := fun f => hI.fr (fun k hk => by rw [su_ne (by omega)]; exact hl.at k (by omega))
  have S9 : ∀ f, su τ 175 f 169 = σ 169 := fun f => f169
  have S1 : ∀ f, su τ 175 f 169 1 = nI nd := fun f => by rw [S9]; exact yd
  have SS : ∀ f, A_shops ns (σ 8) (σ 9) (σ 10) (σ 11) (σ 12) (σ 13) (σ 14) (su τ 175 f 169) := fun f => by rw [S9]; exact hS
  have SD : ∀ f, A_doors nd (σ 5) (σ 6) (su τ 175 f 169) := fun f => by rw [S9]; exact hD
  refine ⟨inN (by omega) (by omega), ?_⟩
  have C1 := hC.1 s (by omega)
  have M : ∀ (r : Int32), (∀ f : Nat → Int32, (∀ s, s < 12 → f s = opM (A s)) → (0 ≤ (su τ 175 f 175 (nI s).toNatClampNeg) → (p3 = 0 → ∃ r', some (Value.int (su τ 175 f 175 (nI s).toNatClampNeg)) = some (.int r') ∧ r = r' ∧ Inv (su τ 175 f)) ∧ (¬ p3 = 0 → (p3 = 1 → vt_Mi g 2 D_X12_comers [.ref (g.2.1 168), .int (nI s)] (su τ 175 f) (fun r14 σ13 => ∃ r', some (Value.int r14) = some (.int r') ∧ r = r' ∧ Inv σ13)) ∧ (¬ p3 = 1 → (p3 = 2 → vt_Mi g 2 D_X12_passers [.ref (g.2.1 168), .int (su τ 175 f 175 (nI s).toNatClampNeg)] (su τ 175 f) (fun r14 σ13 => ∃ r', some (Value.int r14) = some (.int r') ∧ r = r' ∧ Inv σ13)) ∧ (¬ p3 = 2 → (p3 = 3 → vt_Mi g 3 D_X12_foretold [.ref (g.2.1 168), .int (nI s)] (su τ 175 f) (fun r14 σ13 => ∃ r', some (Value.int r14) = some (.int r') ∧ r = r' ∧ Inv σ13)) ∧ (¬ p3 = 3 → vt_Mi g 1 D_X12_others [.ref (g.2.1 168), .int (nI s), .int p3] (su τ 175 f) (fun r14 σ13 => ∃ r', some (Value.int r14) = some (.int r') ∧ r = r' ∧ Inv σ13)))))) ∧ (¬ 0 ≤ (su τ 175 f 175 (nI s).toNatClampNeg) → (¬ p3 = 0 → ∃ r', some (Value.int (-1000000002)) = some (.int r') ∧ r = r' ∧ Inv (su τ 175 f)) ∧ (p3 = 0 → ∃ r', some (Value.int (-1000000005)) = some (.int r') ∧ r = r' ∧ Inv (su τ 175 f)))) → vt_Mi g 4 D_X12_stands [.ref (g.2.1 168), .int (nI s), .int (nI m), .int p3] τ (fun r' σ2 => r = r' ∧ Inv σ2) := by
    intro r H
    exact mI ok_X12_stands.1 rfl rfl rfl (s_X12_stands_0 g _ _ (nI s) (nI m) p3 ⟨fun _ => ⟨fun _ => ⟨fun _ => ST _ (fun f hf => ⟨inN (by omega) (by omega), H f hf⟩), fun c => absurd c3 c⟩, fun c => absurd (by rw [f169]; exact c2') c⟩, fun c => absurd (by rw [f169]; exact c1') c⟩)
  have es : ∀ f : Nat → Int32, su τ 175 f 175 (nI s).toNatClampNeg = f s := fun f => by rw [nI_clamp (by omega)]; rfl
  simp only [es] at M
  rw [nI_clamp (by omega), C1]
  cases ha : A s with
  | none =>
    refine ⟨fun c => ⟨fun d => absurd rfl d, fun _ => ⟨_, rfl, M _ (fun f hf => ?_)⟩⟩, fun c => ⟨_, rfl, M _ (fun f hf => ?_)⟩⟩
    all_goals rw [hf s (by omega), ha]
    · exact ⟨fun d => absurd d (by decide), fun _ => ⟨fun _ => ⟨_, rfl, rfl, IV f⟩, fun d => absurd d c⟩⟩
    · exact ⟨fun d => absurd d (by decide), fun _ => ⟨fun d => absurd c d, fun d => ⟨_, rfl, rfl, IV f⟩⟩⟩
  | some q =>
    have hq := hA.2.1 s q ha
    have en : opN (some q) = nI q := rfl
    have em : opM (some q) = nI q := rfl
    have P0 : 0 ≤ nI q := nI_pos' (by omega)
    have N0 : ¬ nI q = -1000000005 := nI_neNONE (by omega)
    rw [en, nI_clamp (n := q) (by omega), hC.2.2.2.1 s (by omega), hC.2.2.2.2 q hq, hC.2.2.1, if_neg N0, f5, f6, f10]
    have M : ∀ (r : Int32), (∀ f : Nat → Int32, (∀ s, s < 12 → f s = opM (A s)) → (p3 = 0 → r = nI q) ∧ (¬ p3 = 0 → (p3 = 1 → r = cmr A (σ 10) (σ 6) nd s) ∧ (¬ p3 = 1 → (p3 = 2 → r = pst A (σ 10) (σ 5) (σ 6) nd (nI q)) ∧ (¬ p3 = 2 → (p3 = 3 → r = (cmr A (σ 10) (σ 6) nd s + pst A (σ 10) (σ 5) (σ 6) nd (nI q) * σ 11 s / 1000) * σ 13 s) ∧ (¬ p3 = 3 → r = (if p3 = 7 then (if othN A (σ 8) (σ 9) (σ 12) p3 s ≤ 1 then othN A (σ 8) (σ 9) (σ 12) p3 s else 1) else othN A (σ 8) (σ 9) (σ 12) p3 s)))))) → vt_Mi g 4 D_X12_stands [.ref (g.2.1 168), .int (nI s), .int (nI m), .int p3] τ (fun r' σ2 => r = r' ∧ Inv σ2) := by
      intro r H
      refine M r (fun f hf => ?_)
      obtain ⟨H0, H1⟩ := H f hf
      rw [hf s (by omega), ha, em]
      refine ⟨fun _ => ⟨fun d0 => ⟨_, rfl, H0 d0, IV f⟩, fun d0 => ⟨fun d1 => c_X12_comers (σ := su τ 175 f) hf hA hlt (SS f) (SD f) bd (S1 f) (by omega) _ ⟨_, rfl, (H1 d0).1 d1, IV f⟩, fun d1 => ⟨fun d2 => c_X12_passers (σ := su τ 175 f) hf hA hlt (SS f) (SD f) bd (S1 f) _ _ ⟨_, rfl, ((H1 d0).2 d1).1 d2, IV f⟩, fun d2 => ⟨fun d3 => c_X12_foretold (σ := su τ 175 f) hf hA hlt bs (SS f) (SD f) bd (S1 f) hss _ ⟨_, rfl, ?_, IV f⟩, fun d3 => c_X12_others (σ := su τ 175 f) hf hA hlt bs (SS f) hss _ ⟨_, rfl, (((H1 d0).2 d1).2 d2).2 d3, IV f⟩⟩⟩⟩⟩, fun d => absurd P0 d⟩
      rw [ha, em]
      exact (((H1 d0).2 d1).2 d2).1 d3
    have T : ∀ a b : Int32, p3 = a → a ≠ b → ¬ p3 = b := fun a b e n z => n (e.symm.trans z)
    refine ⟨fun d0 => ⟨fun _ => ⟨fun d1 => ⟨_, rfl, M _ (fun f hf => ⟨fun z => absurd z d0, fun _ => ⟨fun _ => rfl, fun z => absurd d1 z⟩⟩)⟩, fun d1 => ⟨fun d2 => ⟨inN hq (by omega), _, rfl, M _ (fun f hf => ⟨fun z => absurd z d0, fun _ => ⟨fun z => absurd z d1, fun _ => ⟨fun _ => rfl, fun z => absurd d2 z⟩⟩⟩)⟩, fun d2 => ⟨fun d3 => c_X2_foretold hC hA (by omega) ha _ ⟨_, rfl, M _ (fun f hf => ⟨fun z => absurd z d0, fun _ => ⟨fun z => absurd z d1, fun _ => ⟨fun z => absurd z d2, fun _ => ⟨fun _ => ?_, fun z => absurd d3 z⟩⟩⟩⟩)⟩, fun d3 => ?_⟩⟩⟩, fun z => absurd z N0⟩, fun d0 => ⟨_, rfl, M _ (fun f hf => ⟨fun _ => rfl, fun z => absurd d0 z⟩)⟩⟩
    · rw [f5, f6, f10, f11, f13]
    · have M : ∀ (r : Int32), r = (if p3 = 7 then (if othN A (σ 8) (σ 9) (σ 12) p3 s ≤ 1 then othN A (σ 8) (σ 9) (σ 12) p3 s else 1) else othN A (σ 8) (σ 9) (σ 12) p3 s) → vt_Mi g 4 D_X12_stands [.ref (g.2.1 168), .int (nI s), .int (nI m), .int p3] τ (fun r' σ2 => r = r' ∧ Inv σ2) := fun r H => M r (fun f hf => ⟨fun z => absurd z d0, fun _ => ⟨fun z => absurd z d1, fun _ => ⟨fun z => absurd z d2, fun _ => ⟨fun z => absurd z d3, fun _ => H⟩⟩⟩⟩)
      refine ⟨fun d4 => ⟨_, rfl, M _ ?_⟩, fun d4 => ⟨fun d5 => c_X2_anchors (ns := ns) hC hlt bs (by rw [f7]; exact xs) (by omega) hA _ ⟨_, rfl, M _ ?_⟩, fun d5 => ⟨fun d6 => c_X2_beside hC hq _ ⟨_, rfl, M _ ?_⟩, fun d6 => c_X2_rivalNear hC hA (by omega) ha _ ?_⟩⟩⟩
      · subst d4; rw [if_neg (by decide)]; exact oth4 (by omega) ha
      · subst d5; rw [if_neg (by decide), f8, f9, f12]
      · subst d6; rw [if_neg (by decide)]; exact oth6 hA ha
      · have e7 : p3 = 7 := by
          obtain ⟨w, hw, rfl⟩ := rng c3.1 c3.2 (n := 7) rfl
          have : ∀ k, w = k → nI w = nI k := fun k e => congrArg nI e
          have : w = 7 := by
            apply Classical.byContradiction
            intro z
            have : w = 0 ∨ w = 1 ∨ w = 2 ∨ w = 3 ∨ w = 4 ∨ w = 5 ∨ w = 6 := by omega
            rcases this with e | e | e | e | e | e | e <;> subst e
            · exact d0 rfl
            · exact d1 rfl
            · exact d2 rfl
            · exact d3 rfl
            · exact d4 rfl
            · exact d5 rfl
            · exact d6 rfl
          subst this; rfl
        subst e7
        rw [if_pos rfl] at M
        rw [f8, f9, f12]
        rcases oth7_val (A := A) (ki := σ 8) (so := σ 9) (ne := σ 12) (s := s) with ⟨e, _⟩ | ⟨e, _⟩
        · rw [e] at M ⊢
          exact ⟨fun _ => ⟨_, rfl, M 0 rfl⟩, fun z => absurd rfl z⟩
        · rw [e] at M ⊢
          exact ⟨fun z => absurd z (by decide), fun _ => ⟨_, rfl, M 1 rfl⟩⟩
theorem op_beyond (hI : Inv σ) : vt_Mi g 3 D_X11_beyond [.ref (g.2.1 0), .int p1, .int p2, .int p3] σ (fun r σ1 => vt_Mi g 4 D_X12_beyond [.ref (g.2.1 168), .int p1, .int p2, .int p3] σ1 (fun r' σ2 => r = r' ∧ Inv σ2)) := by
  obtain ⟨⟨t, nd, ns, nm, nl, lv, hN, hF, hR, hD, hS, hM, hL, hE, hV⟩, h2⟩ := id hI
  obtain ⟨⟨bt, bd, bs, bm, bl, bv⟩, ⟨xt, xv, xd, xs, xm, xl⟩, ⟨yt, yd, ys, ym, yl, yv⟩⟩ := id hN
  have xt : σ 1 9 = nI t := xt
  have xv : σ 1 8 = nI lv := xv
  have xd : σ 4 2 = nI nd := xd
  have xs : σ 7 7 = nI ns := xs
  have xm : σ 15 3 = nI nm := xm
  have xl : σ 19 5 = nI nl := xl
  have hD : A_doors nd (σ 5) (σ 6) (σ 169) := hD
  have hS : A_shops ns (σ 8) (σ 9) (σ 10) (σ 11) (σ 12) (σ 13) (σ 14) (σ 169) := hS
  obtain ⟨ms, mt, mp, hmv⟩ := id hM
  have hmv : A_mv t ns nm (σ 16) (σ 17) (σ 18) (σ 169) ms mt mp := hmv
  have hs : ∀ a : Int32, (¬ a < 0 ∧ ¬ σ 7 7 ≤ a) ↔ (¬ a < 0 ∧ ¬ σ 169 2 - 1 < a) := fun a => by rw [xs, ys]; exact shop_has (by omega)
  have hmo : ∀ a : Int32, (¬ a < 0 ∧ ¬ σ 1 9 < a) ↔ (¬ a < 0 ∧ ¬ σ 169 0 < a) := fun a => by rw [xt, yt]
  refine mI ok_X11_beyond.1 rfl rfl rfl (s_X11_beyond_0 g σ _ p1 p2 p3 ⟨fun c1 => ⟨fun c2 => ⟨fun c3 => ?_, fun c3 => ⟨_, rfl, mI ok_X12_beyond.1 rfl rfl rfl (s_X12_beyond_0 g _ _ p1 p2 p3 ⟨fun _ => ⟨fun _ => ⟨fun c => absurd ((hmo p3).mpr c) c3, fun _ => ⟨_, rfl, rfl, hI⟩⟩, fun c => absurd ((hmo p2).mp c2) c⟩, fun c => absurd ((hs p1).mp c1) c⟩)⟩⟩, fun c2 => ⟨_, rfl, mI ok_X12_beyond.1 rfl rfl rfl (s_X12_beyond_0 g _ _ p1 p2 p3 ⟨fun _ => ⟨fun c => absurd ((hmo p2).mpr c) c2, fun _ => ⟨_, rfl, rfl, hI⟩⟩, fun c => absurd ((hs p1).mp c1) c⟩)⟩⟩, fun c1 => ⟨_, rfl, mI ok_X12_beyond.1 rfl rfl rfl (s_X12_beyond_0 g _ _ p1 p2 p3 ⟨fun c => absurd ((hs p1).mpr c) c1, fun _ => ⟨_, rfl, rfl, hI⟩⟩)⟩⟩)
  have c2' := (hmo p2).mp c2
  have c3' := (hmo p3).mp c3
  have c1' := (hs p1).mp c1
  rw [xt] at c2
  rw [xs] at c1
  obtain ⟨m, hm, rfl⟩ := rngM bt c2
  obtain ⟨s, hss, rfl⟩ := rngL c1.1 c1.2 (by omega)
  obtain ⟨ls, lm, lt, lw, hln⟩ := id hL
  have hln : A_ln nl (σ 20) (σ 21) (σ 22) (σ 23) (σ 24) (σ 169) ls lm lt lw := hln
  refine c_X2_look (σ := σ) (n := σ 169) hmv xm bm bs xs bd xd bt (m := m) (by omega) _ (fun τ hl hm1 hC => ?_)
  have hA := hmv.inj bs m
  have hlt := hmv.lt m
  generalize hAA : (fun s => plc ms mt mp m s nm) = A at hC hA
  have hlt : ∀ s, ns ≤ s → A s = none := fun s hs => by rw [← hAA]; exact hlt s hs
  have f169 : τ 169 = σ 169 := hl.at 169 (by omega)
  have f5 : τ 5 = σ 5 := hl.at 5 (by omega)
  have f6 : τ 6 = σ 6 := hl.at 6 (by omega)
  have f8 : τ 8 = σ 8 := hl.at 8 (by omega)
  have f9 : τ 9 = σ 9 := hl.at 9 (by omega)
  have f10 : τ 10 = σ 10 := hl.at 10 (by omega)
  have f11 : τ 11 = σ 11 := hl.at 11 (by omega)
  have f12 : τ 12 = σ 12 := hl.at 12 (by omega)
  have f13 : τ 13 = σ 13 := hl.at 13 (by omega)
  have f7 : τ 7 = σ 7 := hl.at 7 (by omega)
  have ST : ∀ Φ : vt_Sg → Prop, (∀ f : Nat → Int32, (∀ s, s < 12 → f s = opM (A s)) → Φ (su τ 175 f)) → vt_Mv g 1 D_X12_findStands [.ref (g.2.1 168), .int (nI m)] τ Φ := fun Φ h => c_X12_findStands (σ := τ) (t := t) (ns := ns) (nm := nm) (m1 := σ 16) (m2 := σ 17) (m3 := σ 18) (ms := ms) (mt := mt) (mp := mp) (by rw [f169]; exact ys) (by rw [f169]; exact ym) bm (by rw [f169]; exact hmv) bs bt (by omega) Φ (fun f hf => h f (fun s hs => by rw [hf s hs, ← hAA]))
  have IV : ∀ f, Inv (su τ 175 f) := fun f => hI.fr (fun k hk => by rw [su_ne (by omega)]; exact hl.at k (by omega))
  have S9 : ∀ f, su τ 175 f 169 = σ 169 := fun f => f169
  have S1 : ∀ f, su τ 175 f 169 1 = nI nd := fun f => by rw [S9]; exact yd
  have SS : ∀ f, A_shops ns (σ 8) (σ 9) (σ 10) (σ 11) (σ 12) (σ 13) (σ 14) (su τ 175 f 169) := fun f => by rw [S9]; exact hS
  have SD : ∀ f, A_doors nd (σ 5) (σ 6) (su τ 175 f 169) := fun f => by rw [S9]; exact hD
  refine ⟨inN (by omega) (by omega), ?_⟩
  have C1 := hC.1 s (by omega)
  have es : ∀ f : Nat → Int32, su τ 175 f 175 (nI s).toNatClampNeg = f s := fun f => by rw [nI_clamp (by omega)]; rfl
  rw [nI_clamp (by omega), C1]
  cases ha : A s with
  | none =>
    refine ⟨fun d => absurd rfl d, fun _ => ⟨_, rfl, mI ok_X12_beyond.1 rfl rfl rfl (s_X12_beyond_0 g _ _ (nI s) (nI m) p3 ⟨fun _ => ⟨fun _ => ⟨fun _ => ST _ (fun f hf => ⟨inN (by omega) (by omega), ?_⟩), fun c => absurd (by rw [f169]; exact c3') c⟩, fun c => absurd (by rw [f169]; exact c2') c⟩, fun c => absurd (by rw [f169]; exact c1') c⟩)⟩⟩
    rw [es, hf s (by omega), ha]
    exact ⟨fun d => absurd d (by decide), fun _ => ⟨_, rfl, rfl, IV f⟩⟩
  | some q =>
    have hq := hA.2.1 s q ha
    have N0 : ¬ nI q = -1000000005 := nI_neNONE (by omega)
    have f19 : τ 19 = σ 19 := hl.at 19 (by omega)
    have f20 : τ 20 = σ 20 := hl.at 20 (by omega)
    have f21 : τ 21 = σ 21 := hl.at 21 (by omega)
    have f22 : τ 22 = σ 22 := hl.at 22 (by omega)
    have f23 : τ 23 = σ 23 := hl.at 23 (by omega)
    have f24 : τ 24 = σ 24 := hl.at 24 (by omega)
    have f3 : τ 3 = σ 3 := hl.at 3 (by omega)
    refine ⟨fun _ => c_X2_foretold hC hA (by omega) ha _ (c_X5_sum (nl := nl) (by rw [f19]; exact xl) bl _ ?_), fun c => absurd c N0⟩
    rw [f5, f6, f10, f11, f13, f20, f21, f22, f23, f24, f3, show σ 3 0 = σ 169 5 from hR.1.symm, show σ 3 1 = σ 169 6 from hR.2.symm]
    have K : ∀ r : Int32, ((0 ≤ (lg_cmp (mx0 (sm nl (tkv (σ 20) (σ 21) (σ 22) (σ 23) (σ 24) (nI s) (nI m) p3))).toInt64 (((cmr A (σ 10) (σ 6) nd s + pst A (σ 10) (σ 5) (σ 6) nd (nI q) * σ 11 s / 1000) * σ 13 s).toInt64 * (σ 169 5).toInt64 / 100)) → ((lg_cmp (mx0 (sm nl (tkv (σ 20) (σ 21) (σ 22) (σ 23) (σ 24) (nI s) (nI m) p3))).toInt64 (((cmr A (σ 10) (σ 6) nd s + pst A (σ 10) (σ 5) (σ 6) nd (nI q) * σ 11 s / 1000) * σ 13 s).toInt64 * (σ 169 6).toInt64 / 100)) ≤ 0 → r = 0) ∧ (¬ (lg_cmp (mx0 (sm nl (tkv (σ 20) (σ 21) (σ 22) (σ 23) (σ 24) (nI s) (nI m) p3))).toInt64 (((cmr A (σ 10) (σ 6) nd s + pst A (σ 10) (σ 5) (σ 6) nd (nI q) * σ 11 s / 1000) * σ 13 s).toInt64 * (σ 169 6).toInt64 / 100)) ≤ 0 → r = 1)) ∧ (¬ 0 ≤ (lg_cmp (mx0 (sm nl (tkv (σ 20) (σ 21) (σ 22) (σ 23) (σ 24) (nI s) (nI m) p3))).toInt64 (((cmr A (σ 10) (σ 6) nd s + pst A (σ 10) (σ 5) (σ 6) nd (nI q) * σ 11 s / 1000) * σ 13 s).toInt64 * (σ 169 5).toInt64 / 100)) → r = -1)) → vt_Mi g 4 D_X12_beyond [.ref (g.2.1 168), .int (nI s), .int (nI m), .int p3] τ (fun r' σ2 => r = r' ∧ Inv σ2) := by
      intro r H
      refine mI ok_X12_beyond.1 rfl rfl rfl (s_X12_beyond_0 g _ _ (nI s) (nI m) p3 ⟨fun _ => ⟨fun _ => ⟨fun _ => ST _ (fun f hf => ⟨inN (by omega) (by omega), ?_⟩), fun c => absurd (by rw [f169]; exact c3') c⟩, fun c => absurd (by rw [f169]; exact c2') c⟩, fun c => absurd (by rw [f169]; exact c1') c⟩)
      rw [es, hf s (by omega), ha]
      refine ⟨fun _ => c_X12_foretold (σ := su τ 175 f) hf hA hlt bs (SS f) (SD f) bd (S1 f) hss _ (c_X12_taken (nl := nl) (l1 := σ 20) (l2 := σ 21) (l3 := σ 22) (l4 := σ 23) (l5 := σ 24) (by rw [S9]; exact yl) bl (by rw [S9]; exact hln) c3.1 _ ?_), fun d => absurd (show 0 ≤ opM (some q) from nI_pos' (by omega)) d⟩
      rw [S9, ha]
      exact ⟨fun a => ⟨fun b => ⟨_, rfl, (H.1 a).1 b, IV f⟩, fun b => ⟨_, rfl, (H.1 a).2 b, IV f⟩⟩, fun a => ⟨_, rfl, H.2 a, IV f⟩⟩
    exact ⟨fun a => ⟨fun b => ⟨_, rfl, K _ ⟨fun _ => ⟨fun _ => rfl, fun z => absurd b z⟩, fun z => absurd a z⟩⟩, fun b => ⟨_, rfl, K _ ⟨fun _ => ⟨fun z => absurd z b, fun _ => rfl⟩, fun z => absurd a z⟩⟩⟩, fun a => ⟨_, rfl, K _ ⟨fun z => absurd z a, fun _ => rfl⟩⟩⟩
end OPS8
