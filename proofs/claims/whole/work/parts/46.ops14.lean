/-! OPERATIONS: without -/
section OPS14
variable {g : vt_GT} {σ : vt_Sg} {p1 p2 p3 p4 p5 : Int32}
theorem op_without (hI : Inv σ) : vt_Mi g 6 D_X11_without [.ref (g.2.1 0), .int p1] σ (fun r σ1 => vt_Mi g 6 D_X12_without [.ref (g.2.1 168), .int p1] σ1 (fun r' σ2 => r = r' ∧ Inv σ2)) := by
  obtain ⟨⟨t, nd, ns, nm, nl, lv, hN, hF, hR, hD, hS, hM, hL, hE, hV⟩, h2⟩ := id hI
  obtain ⟨⟨bt, bd, bs, bm, bl, bv⟩, ⟨xt, xv, xd, xs, xm, xl⟩, ⟨yt, yd, ys, ym, yl, yv⟩⟩ := id hN
  have xt : σ 1 9 = nI t := xt
  have xv : σ 1 8 = nI lv := xv
  have xd : σ 4 2 = nI nd := xd
  have xs : σ 7 7 = nI ns := xs
  have xm : σ 15 3 = nI nm := xm
  have xl : σ 19 5 = nI nl := xl
  have hD : A_doors nd (σ 5) (σ 6) (σ 169) := hD
  have hS : A_shops ns (σ 8) (σ 9) (σ 10) (σ 11) (σ 12) (σ 13) (σ 14) (σ 169) := hS
  obtain ⟨ms, mt, mp, hmv⟩ := id hM
  have hmv : A_mv t ns nm (σ 16) (σ 17) (σ 18) (σ 169) ms mt mp := hmv
  have hRel : RelN t nd ns nm nl lv (fun k => σ (1 + k)) (σ 169) := ⟨hN, hF, hR, hD, hS, hM, hL, hE, hV⟩
  have hs : ∀ a : Int32, (¬ a < 0 ∧ ¬ σ 7 7 ≤ a) ↔ (¬ a < 0 ∧ ¬ σ 169 2 - 1 < a) := fun a => by rw [xs, ys]; exact shop_has (by omega)
  have LK : ∀ Φ : vt_Sg → Prop, (∀ τ, Fl σ τ → τ 116 1 = nI t → CR τ (fun s => plc ms mt mp t s nm) nd → Φ τ) → vt_Mv g 2 D_X2_look [.ref (g.2.1 116), .int (σ 1 9)] σ Φ := by
    intro Φ h
    rw [xt]
    exact c_X2_look (σ := σ) (n := σ 169) hmv xm bm bs xs bd xd bt (m := t) (by omega) _ (fun τ hl hm1 hC => h τ hl hm1 hC)
  have hA := hmv.inj bs t
  have hlt := hmv.lt t
  have FS : ∀ (υ : vt_Sg), υ 169 = σ 169 → ∀ Φ : vt_Sg → Prop, (∀ f : Nat → Int32, (∀ s, s < 12 → f s = opM (plc ms mt mp t s nm)) → Φ (su υ 175 f)) → vt_Mv g 1 D_X12_findStands [.ref (g.2.1 168), .int (υ 169 0)] υ Φ := by
    intro υ e Φ h
    rw [e, yt]
    exact c_X12_findStands (σ := υ) (t := t) (ns := ns) (nm := nm) (m1 := σ 16) (m2 := σ 17) (m3 := σ 18) (ms := ms) (mt := mt) (mp := mp) (by rw [e]; exact ys) (by rw [e]; exact ym) bm (by rw [e]; exact hmv) bs bt (by omega) Φ h
  generalize hAA : (fun s => plc ms mt mp t s nm) = A at LK hA
  have FS : ∀ (υ : vt_Sg), υ 169 = σ 169 → ∀ Φ : vt_Sg → Prop, (∀ f : Nat → Int32, (∀ s, s < 12 → f s = opM (A s)) → Φ (su υ 175 f)) → vt_Mv g 1 D_X12_findStands [.ref (g.2.1 168), .int (υ 169 0)] υ Φ := fun υ e Φ h => FS υ e Φ (fun f hf => h f (fun s hs => by rw [hf s hs, ← hAA]))
  have AA : ∀ s, plc ms mt mp t s nm = A s := fun s => by rw [← hAA]
  have hlt : ∀ s, ns ≤ s → A s = none := fun s hs => by rw [← AA]; exact hlt s hs
  have same : ∀ τ, Fl σ τ → ∀ f, Inv (su τ 175 f) := fun τ hl f => hI.fr (fun k hk => by rw [su_ne (by omega)]; exact hl.at k (by omega))
  have hE : A_leases ns (σ 26) (fun s => σ (1 + (27 + s))) (fun s => σ (1 + (40 + s))) (σ 169) := hE
  have hEq : ∀ s, s < ns → (σ 26 s = 0 ↔ ¬ 0 < σ 169 (37 + 8 * s)) := by
    intro s hs
    rcases hE.2 s hs with ⟨a1, a2⟩ | ⟨a1, ⟨q, q1, q2, q3⟩, _⟩
    · rw [a1, a2]; exact ⟨fun _ => by decide, fun _ => rfl⟩
    · rw [a1, q3]; exact ⟨fun c => absurd c (by decide), fun c => absurd (nI_lt (a := 0) q1 (by omega)) c⟩
  obtain ⟨b, hb⟩ := LVs_ex (g := g) hRel
  refine mI ok_X11_without.1 rfl rfl rfl (s_X11_without_0 g σ _ p1 ⟨fun c1 => LK _ (fun τ hl hm1 hC => ?_), fun c1 => ⟨_, rfl, mI ok_X12_without.1 rfl rfl rfl (s_X12_without_0 g _ _ p1 ⟨fun c => absurd ((hs p1).mpr c) c1, fun _ => ⟨_, rfl, rfl, hI⟩⟩)⟩⟩)
  have c1' := (hs p1).mp c1
  rw [xs] at c1
  obtain ⟨s, hss, rfl⟩ := rngL c1.1 c1.2 (by omega)
  have ix : vp_in (nI s) 12 := inN (by omega) (by omega)
  refine ⟨ix, ?_⟩
  rw [nI_clamp (by omega), hC.1 s (by omega)]
  have es : ∀ (υ : vt_Sg) (f : Nat → Int32), su υ 175 f 175 (nI s).toNatClampNeg = f s := fun υ f => by rw [nI_clamp (by omega)]; rfl
  cases ha : A s with
  | none =>
    refine ⟨fun c => absurd rfl c, fun _ => ⟨_, rfl, mI ok_X12_without.1 rfl rfl rfl (s_X12_without_0 g τ _ (nI s) ⟨fun _ => FS τ (hl.at 169 (by omega)) _ (fun f hf => ⟨ix, ?_⟩), fun c => absurd (by rw [hl.at 169 (by omega)]; exact c1') c⟩)⟩⟩
    rw [es, hf s (by omega), ha]
    exact ⟨fun c => absurd c (by decide), fun _ => ⟨_, rfl, rfl, same τ hl f⟩⟩
  | some p =>
    have hp := hA.2.1 s p ha
    have hA' := wo_inj hA s
    have hlt' := wo_lt hlt s
    refine ⟨fun _ => c_X2_sendOut (σ := τ) (A := A) (nd := nd) (ns := ns) (by omega) hC.1 hA hlt bs (by rw [hl.at 7 (by omega)]; exact xs) bd (by rw [hl.at 4 (by omega)]; exact xd) _ (fun τ2 hl2 h12 hC2 => ?_), fun c => absurd c (nI_neNONE (by omega))⟩
    have W : WX σ (wo A s) nd t τ2 := ⟨fun k hk => (hl2.at k (by omega)).trans (hl.at k (by omega)), hC2, h12.trans hm1⟩
    refine c_X11_letFall hb hA' hlt' bs xs xt bd xd W _ (fun τ3 g1 g2 => ⟨_, rfl, mI ok_X12_without.1 rfl rfl rfl (s_X12_without_0 g τ3 _ (nI s) ⟨fun _ => FS τ3 (g1 169 (by omega)) _ (fun f hf => ⟨ix, ?_⟩), fun c => absurd (by rw [g1 169 (by omega)]; exact c1') c⟩)⟩)
    rw [es, hf s (by omega), ha, su_su, su_same, nI_clamp (by omega)]
    refine ⟨fun _ => c_X12_findFall (A := wo A s) hb hA' hlt' bs ys yt hEq ⟨fun k hk => ?_, fun o ho => ?_⟩ _ (fun υ' k1 k2 => ⟨_, rfl, rfl, hI.fr (fun k hk => k1 k (by omega))⟩), fun c => absurd (show 0 ≤ opM (some p) from nI_pos' (by omega)) c⟩
    · rw [su_ne (by omega)]; exact g1 k (by omega)
    · show upd f s (-1) o = _
      by_cases q : o = s
      · subst q; rw [upd_same, wo, if_pos rfl]; rfl
      · rw [upd_ne q, wo, if_neg q]; exact hf o ho
end OPS14
