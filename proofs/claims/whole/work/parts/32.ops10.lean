/-! OPERATIONS: count, broken -/
section OPS10
variable {g : vt_GT} {σ : vt_Sg} {p1 p2 p3 p4 p5 : Int32}
/-- a loop that counts -/
theorem lpN (N : Nat) (b : Nat → Bool) (T : Nat → Int32 → Prop) (hx : T N (sm N (fun i => ind (b i)))) (hs : ∀ i x, i < N → (b i = true → T (i + 1) (x + 1)) → (b i = false → T (i + 1) x) → T i x) : T 0 0 :=
  lpD N (fun i => T i (sm i (fun i => ind (b i)))) hx (fun i hi ih => hs i _ hi (fun e => by
    have : sm (i + 1) (fun i => ind (b i)) = sm i (fun i => ind (b i)) + 1 := by
      show _ + ind (b i) = _
      rw [e]; rfl
    rw [this] at ih; exact ih) (fun e => by
    rw [sm_0 (show ind (b i) = 0 by rw [e]; rfl)] at ih; exact ih))
theorem c_X5_withdrawn {nl : Nat} {lw : Nat → Option Nat} (hl : σ 19 5 = nI nl) (hb : nl ≤ 100) (hw : ∀ l, l < nl → σ 24 l = opN (lw l) ∧ ∀ w, lw l = some w → w ≤ 120) (Φ : Int32 → vt_Sg → Prop) (h : Φ (sm nl (fun i => ind (lw i).isSome)) σ) : vt_Mi g 0 D_X5_countWithdrawn [.ref (g.2.1 19)] σ Φ := by
  refine mI ok_X5_countWithdrawn.1 rfl rfl rfl (s_X5_countWithdrawn_0 g σ _ ?_)
  refine lpN nl (fun i => (lw i).isSome) (fun i x => TT g (vt_R 0) 0 0 D_X5_countWithdrawn none 4 [some (.ref (g.2.1 19)), some (.int x), some (.int (nI i))] [] σ _) ?_ ?_
  · exact s_X5_countWithdrawn_4 g σ _ _ _ ⟨fun _ => ⟨_, rfl, h⟩, fun c => absurd (by rw [hl]; exact nI_le (Nat.le_refl _) (by omega)) c⟩
  · intro i x hi up no
    obtain ⟨e, e2⟩ := hw i hi
    refine s_X5_countWithdrawn_4 g σ _ _ _ ⟨fun c => absurd (by rw [hl] at c; exact c) (nI_ge hi (by omega)), fun _ => ⟨inN (by omega) (by omega), ?_⟩⟩
    rw [nI_clamp (by omega), e, nI_1]
    have on := opN_none e2
    refine ⟨fun c => no (by rw [on.mp c]; rfl), fun c => up ?_⟩
    cases z : lw i with
    | none => exact absurd (on.mpr z) c
    | some w => rfl
theorem c_X4_held (Φ : Int32 → vt_Sg → Prop) (h : Φ (sm 12 (fun i => ind (decide (¬ σ 26 i = 0)))) σ) : vt_Mi g 0 D_X4_countHeld [.ref (g.2.1 25)] σ Φ := by
  refine mI ok_X4_countHeld.1 rfl rfl rfl (s_X4_countHeld_0 g σ _ ?_)
  refine lpN 12 (fun i => decide (¬ σ 26 i = 0)) (fun i x => TT g (vt_R 0) 0 0 D_X4_countHeld none 4 [some (.ref (g.2.1 25)), some (.int x), some (.int (nI i))] [] σ _) ?_ ?_
  · exact s_X4_countHeld_4 g σ _ _ _ ⟨fun _ => ⟨_, rfl, h⟩, fun c => absurd (show (12 : Int32) ≤ 12 from by decide) c⟩
  · intro i x hi up no
    refine s_X4_countHeld_4 g σ _ _ _ ⟨fun c => absurd c (nI_ge (b := 12) hi (by omega)), fun _ => ⟨inN (by omega) (by omega), ?_⟩⟩
    rw [nI_clamp (by omega), nI_1]
    exact ⟨fun c => no (decide_eq_false (fun z => z c)), fun c => up (decide_eq_true c)⟩
theorem op_count (hI : Inv σ) : vt_Mi g 4 D_X11_count [.ref (g.2.1 0), .int p1] σ (fun r σ1 => vt_Mi g 2 D_X12_count [.ref (g.2.1 168), .int p1] σ1 (fun r' σ2 => r = r' ∧ Inv σ2)) := by
  obtain ⟨⟨t, nd, ns, nm, nl, lv, hN, hF, hR, hD, hS, hM, hL, hE, hV⟩, h2⟩ := id hI
  obtain ⟨⟨bt, bd, bs, bm, bl, bv⟩, ⟨xt, xv, xd, xs, xm, xl⟩, ⟨yt, yd, ys, ym, yl, yv⟩⟩ := id hN
  have xt : σ 1 9 = nI t := xt
  have xv : σ 1 8 = nI lv := xv
  have xd : σ 4 2 = nI nd := xd
  have xs : σ 7 7 = nI ns := xs
  have xm : σ 15 3 = nI nm := xm
  have xl : σ 19 5 = nI nl := xl
  have hD : A_doors nd (σ 5) (σ 6) (σ 169) := hD
  have hS : A_shops ns (σ 8) (σ 9) (σ 10) (σ 11) (σ 12) (σ 13) (σ 14) (σ 169) := hS
  obtain ⟨ms, mt, mp, hmv⟩ := id hM
  have hmv : A_mv t ns nm (σ 16) (σ 17) (σ 18) (σ 169) ms mt mp := hmv
  have LK : ∀ Φ : vt_Sg → Prop, (∀ τ, Fl σ τ → CR τ (fun s => plc ms mt mp t s nm) nd → Φ τ) → vt_Mv g 2 D_X2_look [.ref (g.2.1 116), .int (σ 1 9)] σ Φ := by
    intro Φ h
    rw [xt]
    exact c_X2_look (σ := σ) (n := σ 169) hmv xm bm bs xs bd xd bt (m := t) (by omega) _ (fun τ hl _ hC => h τ hl hC)
  have hA := hmv.inj bs t
  have hlt := hmv.lt t
  have FS : ∀ (υ : vt_Sg), υ 169 = σ 169 → ∀ Φ : vt_Sg → Prop, (∀ f : Nat → Int32, (∀ s, s < 12 → f s = opM (plc ms mt mp t s nm)) → Φ (su υ 175 f)) → vt_Mv g 1 D_X12_findStands [.ref (g.2.1 168), .int (υ 169 0)] υ Φ := by
    intro υ e Φ h
    rw [e, yt]
    exact c_X12_findStands (σ := υ) (t := t) (ns := ns) (nm := nm) (m1 := σ 16) (m2 := σ 17) (m3 := σ 18) (ms := ms) (mt := mt) (mp := mp) (by rw [e]; exact ys) (by rw [e]; exact ym) bm (by rw [e]; exact hmv) bs bt (by omega) Φ h
  generalize hAA : (fun s => plc ms mt mp t s nm) = A at LK hA
  have FS : ∀ (υ : vt_Sg), υ 169 = σ 169 → ∀ Φ : vt_Sg → Prop, (∀ f : Nat → Int32, (∀ s, s < 12 → f s = opM (A s)) → Φ (su υ 175 f)) → vt_Mv g 1 D_X12_findStands [.ref (g.2.1 168), .int (υ 169 0)] υ Φ := fun υ e Φ h => FS υ e Φ (fun f hf => h f (fun s hs => by rw [hf s hs, ← hAA]))
  have AA : ∀ s, plc ms mt mp t s nm = A s := fun s => by rw [← hAA]
  have hlt : ∀ s, ns ≤ s → A s = none := fun s hs => by rw [← AA]; exact hlt s hs
  have same : ∀ τ, Fl σ τ → ∀ f, Inv (su τ 175 f) := fun τ hl f => hI.fr (fun k hk => by rw [su_ne (by omega)]; exact hl.at k (by omega))
  obtain ⟨ls, lm, lt, lw, hln⟩ := id hL
  have hln : A_ln nl (σ 20) (σ 21) (σ 22) (σ 23) (σ 24) (σ 169) ls lm lt lw := hln
  have hE : A_leases ns (σ 26) (fun s => σ (1 + (27 + s))) (fun s => σ (1 + (40 + s))) (σ 169) := hE
  obtain ⟨_, ⟨na, hna, ta, tb, _⟩, ⟨nw, hnw, wa, wb, _⟩, _⟩ := id h2
  have M : ∀ (r : Int32) (υ : vt_Sg), _ → vt_Mi g 2 D_X12_count [.ref (g.2.1 168), .int p1] υ (fun r' σ2 => r = r' ∧ Inv σ2) := fun r υ h => mI ok_X12_count.1 rfl rfl rfl (s_X12_count_0 g υ _ p1 h)
  refine mI ok_X11_count.1 rfl rfl rfl (s_X11_count_0 g σ _ p1 ⟨fun z0 => ⟨_, rfl, M _ σ ⟨fun _ => ⟨_, rfl, by rw [xd, yd], hI⟩, fun z => absurd z0 z⟩⟩, fun z0 => ⟨fun z1 => ⟨_, rfl, M _ σ ⟨fun z => absurd z z0, fun _ => ⟨fun _ => ⟨_, rfl, by rw [xs, ys], hI⟩, fun z => absurd z1 z⟩⟩⟩, fun z1 => ⟨fun z2 => mI ok_X11_countIn.1 rfl rfl rfl (s_X11_countIn_0 g σ _ (LK _ (fun τ hl hC => ⟨_, rfl, _, rfl, M _ τ ⟨fun z => absurd z z0, fun _ => ⟨fun z => absurd z z1, fun _ => ⟨fun _ => FS τ (hl.at 169 (by omega)) _ (fun f hf => ?_), fun z => absurd z2 z⟩⟩⟩⟩))), fun z2 => ⟨fun z3 => ⟨_, rfl, M _ σ ⟨fun z => absurd z z0, fun _ => ⟨fun z => absurd z z1, fun _ => ⟨fun z => absurd z z2, fun _ => ⟨fun _ => ⟨_, rfl, by rw [xl, yl], hI⟩, fun z => absurd z3 z⟩⟩⟩⟩⟩, fun z3 => ⟨fun z4 => c_X5_withdrawn (nl := nl) (lw := lw) xl bl (fun l hl => ⟨(hln l hl).2.2.2.1, (hln l hl).2.2.2.2.2.2.2.2.2⟩) _ ⟨_, rfl, M _ σ ⟨fun z => absurd z z0, fun _ => ⟨fun z => absurd z z1, fun _ => ⟨fun z => absurd z z2, fun _ => ⟨fun z => absurd z z3, fun _ => ⟨fun _ => ?_, fun z => absurd z4 z⟩⟩⟩⟩⟩⟩, fun z4 => ⟨fun z5 => c_X4_held _ ⟨_, rfl, M _ σ ⟨fun z => absurd z z0, fun _ => ⟨fun z => absurd z z1, fun _ => ⟨fun z => absurd z z2, fun _ => ⟨fun z => absurd z z3, fun _ => ⟨fun z => absurd z z4, fun _ => ⟨fun _ => ?_, fun z => absurd z5 z⟩⟩⟩⟩⟩⟩⟩, fun z5 => ?_⟩⟩⟩⟩⟩⟩)
  · refine lpN 12 (fun i => (A i).isSome) (fun i x => TT g (vt_R 2) 0 0 D_X12_count none 82 [some (.ref (g.2.1 168)), some (.int p1), some (.int x), some (.int (nI i))] [] (su τ 175 f) _) ?_ ?_
    · exact s_X12_count_82 g _ _ _ _ _ ⟨fun _ => ⟨_, rfl, hC.2.2.1, same τ hl f⟩, fun c => absurd (show (12 : Int32) ≤ 12 from by decide) c⟩
    · intro i x hi up no
      have sg := opM_sign (hA.2.1 i)
      refine s_X12_count_82 g _ _ _ _ _ ⟨fun c => absurd c (nI_ge (b := 12) hi (by omega)), fun _ => ⟨inN (by omega) (by omega), ?_⟩⟩
      have e : su τ 175 f 175 (nI i).toNatClampNeg = opM (A i) := by rw [nI_clamp (by omega)]; exact hf i hi
      rw [e, nI_1, Int32.add_zero]
      refine ⟨fun c => up (sg.mp c), fun c => no ?_⟩
      cases z : (A i).isSome with
      | false => rfl
      | true => exact absurd (sg.mpr z) c
  · refine lpN nl (fun i => (lw i).isSome) (fun i x => TT g (vt_R 2) 0 0 D_X12_count none 122 [some (.ref (g.2.1 168)), some (.int p1), some (.int x), some (.int (nI i))] [] σ _) ?_ ?_
    · exact s_X12_count_122 g _ _ _ _ _ ⟨fun _ => ⟨_, rfl, rfl, hI⟩, fun c => absurd (by rw [yl]; exact nI_le (Nat.le_refl _) (by omega)) c⟩
    · intro i x hi up no
      obtain ⟨a1, a2, a3, a4, a5, a6, a7, a8, a9, a10⟩ := hln i hi
      obtain ⟨d1, d2, d3, d4⟩ := ln_dec a7 a8 a9 (opC_le a10) a6
      have e1 : (340 : Int32) + 2 * nI i + 1 = nI (341 + 2 * i) := (lin1 340 2 i).trans (congrArg nI (by omega))
      have gn := (gone_neg a10).1
      refine s_X12_count_122 g _ _ _ _ _ ⟨fun c => absurd (by rw [yl] at c; exact c) (nI_ge hi (by omega)), fun _ => ?_⟩
      rw [e1, nI_clamp (by omega), d4, nI_1, Int32.add_zero]
      refine ⟨inN (by omega) (by omega), fun c => up ?_, fun c => no ?_⟩
      · cases z : lw i with
        | none => exact absurd (gn.mpr z) (Int32.not_lt.mpr c)
        | some w => rfl
      · rw [gn.mp (Int32.not_le.mp c)]; rfl
  · have et : sm 12 (fun i => ind (decide (¬ σ 26 i = 0))) = sm ns (fun i => ind (decide (¬ σ 26 i = 0))) := sm_more bs (fun i h1 h2 => by rw [hE.1 i h2 h1]; rfl)
    rw [et]
    refine lpN ns (fun i => decide (¬ σ 26 i = 0)) (fun i x => TT g (vt_R 2) 0 0 D_X12_count none 158 [some (.ref (g.2.1 168)), some (.int p1), some (.int x), some (.int (nI i))] [] σ _) ?_ ?_
    · exact s_X12_count_158 g _ _ _ _ _ ⟨fun _ => ⟨_, rfl, rfl, hI⟩, fun c => absurd (by rw [ys]; exact nI_le (Nat.le_refl _) (by omega)) c⟩
    · intro i x hi up no
      have e1 : (30 : Int32) + 8 * nI i + 7 = nI (30 + 8 * i + 7) := shop_ix (f := 7)
      refine s_X12_count_158 g _ _ _ _ _ ⟨fun c => absurd (by rw [ys] at c; exact c) (nI_ge hi (by omega)), fun _ => ?_⟩
      rw [e1, nI_clamp (by omega), nI_1, Int32.add_zero, show 30 + 8 * i + 7 = 37 + 8 * i by omega]
      rcases hE.2 i hi with ⟨k1, k2⟩ | ⟨k1, ⟨q, q1, q2, k2⟩, _⟩
      · rw [k2]
        exact ⟨inN (by omega) (by omega), fun c => absurd c (by decide), fun _ => no (decide_eq_false (fun z => z k1))⟩
      · rw [k2]
        exact ⟨inN (by omega) (by omega), fun _ => up (decide_eq_true (by rw [k1]; decide)), fun c => absurd (nI_lt (a := 0) q1 (by omega)) c⟩
  · have N : ∀ (r : Int32), (p1 = 6 → r = nI nm) ∧ (¬ p1 = 6 → (p1 = 7 → r = nI nw) ∧ (¬ p1 = 7 → (p1 = 8 → r = nI na) ∧ (¬ p1 = 8 → (p1 = 9 → r = nI t) ∧ (¬ p1 = 9 → r = -1000000001)))) → vt_Mi g 2 D_X12_count [.ref (g.2.1 168), .int p1] σ (fun r' σ2 => r = r' ∧ Inv σ2) := by
      intro r h
      refine M r σ ⟨fun z => absurd z z0, fun _ => ⟨fun z => absurd z z1, fun _ => ⟨fun z => absurd z z2, fun _ => ⟨fun z => absurd z z3, fun _ => ⟨fun z => absurd z z4, fun _ => ⟨fun z => absurd z z5, fun _ => ?_⟩⟩⟩⟩⟩⟩
      rw [ym, wb, tb, yt]
      exact ⟨fun a => ⟨_, rfl, h.1 a, hI⟩, fun a => ⟨fun b => ⟨_, rfl, (h.2 a).1 b, hI⟩, fun b => ⟨fun c => ⟨_, rfl, ((h.2 a).2 b).1 c, hI⟩, fun c => ⟨fun d => ⟨_, rfl, (((h.2 a).2 b).2 c).1 d, hI⟩, fun d => ⟨_, rfl, (((h.2 a).2 b).2 c).2 d, hI⟩⟩⟩⟩⟩
    rw [xm, wa, ta, xt]
    exact ⟨fun a => ⟨_, rfl, N _ ⟨fun _ => rfl, fun z => absurd a z⟩⟩, fun a => ⟨fun b => ⟨_, rfl, N _ ⟨fun z => absurd z a, fun _ => ⟨fun _ => rfl, fun z => absurd b z⟩⟩⟩, fun b => ⟨fun c => ⟨_, rfl, N _ ⟨fun z => absurd z a, fun _ => ⟨fun z => absurd z b, fun _ => ⟨fun _ => rfl, fun z => absurd c z⟩⟩⟩⟩, fun c => ⟨fun d => ⟨_, rfl, N _ ⟨fun z => absurd z a, fun _ => ⟨fun z => absurd z b, fun _ => ⟨fun z => absurd z c, fun _ => ⟨fun _ => rfl, fun z => absurd d z⟩⟩⟩⟩⟩, fun d => ⟨_, rfl, N _ ⟨fun z => absurd z a, fun _ => ⟨fun z => absurd z b, fun _ => ⟨fun z => absurd z c, fun _ => ⟨fun z => absurd z d, fun _ => rfl⟩⟩⟩⟩⟩⟩⟩⟩⟩
end OPS10
