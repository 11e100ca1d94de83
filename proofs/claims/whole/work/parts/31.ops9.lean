/-! OPERATIONS: move -/
section OPS9
variable {g : vt_GT} {σ : vt_Sg} {p1 p2 p3 p4 p5 : Int32}
theorem plc_cong {ms mt ms' mt' : Nat → Nat} {mp mp' : Nat → Option Nat} {m s : Nat} : ∀ k, (∀ i, i < k → ms' i = ms i ∧ mt' i = mt i ∧ mp' i = mp i) → plc ms' mt' mp' m s k = plc ms mt mp m s k
  | 0, _ => rfl
  | k + 1, h => by
    obtain ⟨a, b, c⟩ := h k (by omega)
    rw [plc, plc, a, b, c, plc_cong k (fun i hi => h i (by omega))]
theorem plc_late {ms mt : Nat → Nat} {mp : Nat → Option Nat} {m t s : Nat} (hm : t ≤ m) : ∀ k, (∀ i, i < k → mt i ≤ t) → plc ms mt mp m s k = plc ms mt mp t s k
  | 0, _ => rfl
  | k + 1, h => by
    have a := h k (by omega)
    rw [plc, plc, plc_late hm k (fun i hi => h i (by omega))]
    by_cases c : ms k = s
    · rw [if_pos ⟨c, by omega⟩, if_pos ⟨c, a⟩]
    · rw [if_neg (fun q => c q.1), if_neg (fun q => c q.1)]
theorem plc_new {ms mt : Nat → Nat} {mp : Nat → Option Nat} {m t s s' nm : Nat} {o : Option Nat} : plc (upd0 ms nm s) (upd0 mt nm t) (upd0 mp nm o) m s' (nm + 1) = if s = s' ∧ t ≤ m then o else plc ms mt mp m s' nm := by
  rw [plc, upd0_same, upd0_same, upd0_same, plc_cong nm (fun i hi => ⟨upd0_ne (by omega), upd0_ne (by omega), upd0_ne (by omega)⟩)]
theorem mv_add {t ns nm s : Nat} {m1 m2 m3 n n' : Nat → Int32} {ms mt : Nat → Nat} {mp : Nat → Option Nat} {o : Option Nat} (h : A_mv t ns nm m1 m2 m3 n ms mt mp) (hs : s < ns) (ho : ∀ p, o = some p → p < 12 ∧ ∀ s', plc ms mt mp t s' nm ≠ some p)
    (hn : ∀ k, k < nm → n' (140 + k) = n (140 + k)) (hv : n' (140 + nm) = nI (opC o + 13 * s + 156 * t)) : A_mv t ns (nm + 1) (upd m1 nm (nI s)) (upd m2 nm (nI t)) (upd m3 nm (opN o)) n' (upd0 ms nm s) (upd0 mt nm t) (upd0 mp nm o) := by
  obtain ⟨h1, h2, h3⟩ := h
  refine ⟨fun k hk => ?_, fun k hk => ?_, fun m a b p e1 e2 => ?_⟩
  · by_cases e : k = nm
    · subst e
      rw [upd_same, upd_same, upd_same, upd0_same, upd0_same, upd0_same]
      exact ⟨rfl, rfl, rfl, hv, hs, Nat.le_refl _, fun p hp => (ho p hp).1⟩
    · rw [upd_ne e, upd_ne e, upd_ne e, upd0_ne e, upd0_ne e, upd0_ne e, hn k (by omega)]
      exact h1 k (by omega)
  · by_cases e : k + 1 = nm
    · rw [e, upd0_same, upd0_ne (by omega)]
      exact (h1 k (by omega)).2.2.2.2.2.1
    · rw [upd0_ne (by omega), upd0_ne e]
      exact h2 k (by omega)
  · rw [plc_new] at e1 e2
    have lt : t ≤ m → ∀ s', plc ms mt mp m s' nm = plc ms mt mp t s' nm := fun q s' => plc_late q nm (fun i hi => (h1 i hi).2.2.2.2.2.1)
    by_cases c1 : s = a ∧ t ≤ m
    · by_cases c2 : s = b ∧ t ≤ m
      · exact c1.1.symm.trans c2.1
      · rw [if_pos c1] at e1
        rw [if_neg c2, lt c1.2] at e2
        exact absurd e2 ((ho p e1).2 b)
    · by_cases c2 : s = b ∧ t ≤ m
      · rw [if_pos c2] at e2
        rw [if_neg c1, lt c2.2] at e1
        exact absurd e1 ((ho p e2).2 a)
      · rw [if_neg c1] at e1
        rw [if_neg c2] at e2
        exact h3 m a b p e1 e2
theorem RelN.cg {t nd ns nm nl lv : Nat} {x x' : Nat → Nat → Int32} {n : Nat → Int32} (h : RelN t nd ns nm nl lv x n) (hx : ∀ k, k < 53 → x' k = x k) : RelN t nd ns nm nl lv x' n := by
  obtain ⟨h1, h2, h3, h4, h5, h6, h7, h8, h9⟩ := h
  unfold RelN
  rw [hx 0 (by omega), hx 1 (by omega), hx 2 (by omega), hx 3 (by omega), hx 4 (by omega), hx 5 (by omega), hx 6 (by omega), hx 7 (by omega), hx 8 (by omega), hx 9 (by omega), hx 10 (by omega), hx 11 (by omega), hx 12 (by omega), hx 13 (by omega), hx 14 (by omega), hx 15 (by omega), hx 16 (by omega), hx 17 (by omega), hx 18 (by omega), hx 19 (by omega), hx 20 (by omega), hx 21 (by omega), hx 22 (by omega), hx 23 (by omega), hx 25 (by omega), hx 52 (by omega)]
  exact ⟨h1, h2, h3, h4, h5, h6, h7, h8.cg h1.1.2.2.1 (fun s hs => hx _ (by omega)) (fun s hs => hx _ (by omega)), h9⟩
theorem RelN.mv {t nd ns nm nl lv s : Nat} {x x' : Nat → Nat → Int32} {n n' : Nat → Int32} {ms mt : Nat → Nat} {mp : Nat → Option Nat} {o : Option Nat} (h : RelN t nd ns nm nl lv x n) (hmv : A_mv t ns nm (x 15) (x 16) (x 17) n ms mt mp) (hb : nm < 200) (hs : s < ns) (ho : ∀ p, o = some p → p < 12 ∧ ∀ s', plc ms mt mp t s' nm ≠ some p)
    (hx : ∀ k, k < 53 → k ≠ 14 → k ≠ 15 → k ≠ 16 → k ≠ 17 → x' k = x k) (h14 : x' 14 3 = nI (nm + 1)) (h15 : x' 15 = upd (x 15) nm (nI s)) (h16 : x' 16 = upd (x 16) nm (nI t)) (h17 : x' 17 = upd (x 17) nm (opN o))
    (hn : ∀ j, j ≠ 3 → j ≠ 140 + nm → n' j = n j) (hn3 : n' 3 = nI (nm + 1)) (hv : n' (140 + nm) = nI (opC o + 13 * s + 156 * t)) :
    RelN t nd ns (nm + 1) nl lv x' n' ∧ A_mv t ns (nm + 1) (x' 15) (x' 16) (x' 17) n' (upd0 ms nm s) (upd0 mt nm t) (upd0 mp nm o) := by
  have key := mv_add hmv hs ho (fun k hk => hn (140 + k) (by omega) (by omega)) hv
  rw [← h15, ← h16, ← h17] at key
  refine ⟨?_, key⟩
  obtain ⟨⟨⟨bt, bd, bs, bm, bl, bv⟩, ⟨xt, xv, xd, xs, xm, xl⟩, ⟨yt, yd, ys, ym, yl, yv⟩⟩, h2, h3, h4, h5, h6, h7, h8, h9⟩ := h
  unfold RelN
  rw [hx 0 (by omega) (by omega) (by omega) (by omega) (by omega), hx 1 (by omega) (by omega) (by omega) (by omega) (by omega), hx 2 (by omega) (by omega) (by omega) (by omega) (by omega), hx 3 (by omega) (by omega) (by omega) (by omega) (by omega), hx 4 (by omega) (by omega) (by omega) (by omega) (by omega), hx 5 (by omega) (by omega) (by omega) (by omega) (by omega), hx 6 (by omega) (by omega) (by omega) (by omega) (by omega), hx 7 (by omega) (by omega) (by omega) (by omega) (by omega), hx 8 (by omega) (by omega) (by omega) (by omega) (by omega), hx 9 (by omega) (by omega) (by omega) (by omega) (by omega), hx 10 (by omega) (by omega) (by omega) (by omega) (by omega), hx 11 (by omega) (by omega) (by omega) (by omega) (by omega), hx 12 (by omega) (by omega) (by omega) (by omega) (by omega), hx 13 (by omega) (by omega) (by omega) (by omega) (by omega), hx 18 (by omega) (by omega) (by omega) (by omega) (by omega), hx 19 (by omega) (by omega) (by omega) (by omega) (by omega), hx 20 (by omega) (by omega) (by omega) (by omega) (by omega), hx 21 (by omega) (by omega) (by omega) (by omega) (by omega), hx 22 (by omega) (by omega) (by omega) (by omega) (by omega), hx 23 (by omega) (by omega) (by omega) (by omega) (by omega), hx 25 (by omega) (by omega) (by omega) (by omega) (by omega), hx 52 (by omega) (by omega) (by omega) (by omega) (by omega)]
  exact ⟨⟨⟨bt, bd, bs, by omega, bl, bv⟩, ⟨xt, xv, xd, xs, h14, xl⟩, ⟨(hn 0 (by omega) (by omega)).trans yt, (hn 1 (by omega) (by omega)).trans yd, (hn 2 (by omega) (by omega)).trans ys, hn3, (hn 4 (by omega) (by omega)).trans yl, (hn 7 (by omega) (by omega)).trans yv⟩⟩, h2.fr (fun j _ _ => hn j (by omega) (by omega)), h3.fr (fun j _ _ => hn j (by omega) (by omega)), h4.fr bd (fun j _ _ => hn j (by omega) (by omega)), h5.fr bs (fun j _ _ => hn j (by omega) (by omega)), ⟨_, _, _, key⟩, h7.fr bl (fun j _ _ => hn j (by omega) (by omega)), (h8.cg bs (fun s hs => hx _ (by omega) (by omega) (by omega) (by omega) (by omega)) (fun s hs => hx _ (by omega) (by omega) (by omega) (by omega) (by omega))).fr bs (fun j _ _ => hn j (by omega) (by omega)) (fun j _ _ => hn j (by omega) (by omega)), h9.fr bv (fun j _ _ => hn j (by omega) (by omega))⟩
theorem c_X7_add {nm : Nat} (h15 : σ 15 3 = nI nm) (hb : nm < 200) (Φ : vt_Sg → Prop) (h : Φ (su (su (su (su σ 16 (upd (σ 16) nm p1)) 17 (upd (σ 17) nm p2)) 18 (upd (σ 18) nm p3)) 15 (upd (σ 15) 3 (nI (nm + 1))))) : vt_Mv g 0 D_X7_add [.ref (g.2.1 15), .int p1, .int p2, .int p3] σ Φ := by
  refine mV ok_X7_add.1 rfl rfl rfl (s_X7_add_0 g σ _ p1 p2 p3 ?_)
  rw [h15, nI_clamp (by omega), nI_1]
  exact ⟨inN hb (by omega), rfl, h⟩
theorem opM_1 {o : Option Nat} : opM o + 1 = nI (opC o) := by
  cases o with
  | none => decide
  | some p => exact nI_1 p
theorem c_X12_moves {nm t s : Nat} {o : Option Nat} (h3 : σ 169 3 = nI nm) (h0 : σ 169 0 = nI t) (hb : nm < 200) (Φ : vt_Sg → Prop) (h : ∀ n' : Nat → Int32, (∀ j, j ≠ 3 → j ≠ 140 + nm → n' j = σ 169 j) → n' 3 = nI (nm + 1) → n' (140 + nm) = nI (opC o + 13 * s + 156 * t) → Φ (su σ 169 n')) : vt_Mv g 0 D_X12_moves [.ref (g.2.1 168), .int (nI s), .int (opM o)] σ Φ := by
  refine mV ok_X12_moves.1 rfl rfl rfl (s_X12_moves_0 g σ _ (nI s) (opM o) ?_)
  have e1 : (140 : Int32) + nI nm = nI (140 + nm) := nI_add 140 nm
  have e2 : (13 : Int32) * nI s = nI (13 * s) := pk_mul 13 s
  have e3 : (156 : Int32) * nI t = nI (156 * t) := pk_mul 156 t
  rw [h3, e1, nI_clamp (by omega), h0, e2, e3, opM_1, nI_add, nI_add, su_su, upd_ne (show (3 : Nat) ≠ 140 + nm by omega), h3, nI_1]
  refine ⟨inN (by omega) (by omega), rfl, h _ (fun j a b => ?_) upd_same ?_⟩
  · rw [upd_ne a, upd_ne b]
  · rw [upd_ne (by omega), upd_same]
theorem c_X12_shopAt {A : Nat → Option Nat} (hst : ∀ s, s < 12 → σ 175 s = opM (A s)) (hA : inj12 A) {p : Nat} (hp : p < 12) (Φ : Int32 → vt_Sg → Prop) (h : Φ (opM (Bf A 12 p)) σ) : vt_Mi g 0 D_X12_shopAt [.ref (g.2.1 168), .int (nI p)] σ Φ := by
  refine mI ok_X12_shopAt.1 rfl rfl rfl (s_X12_shopAt_0 g σ _ (nI p) ?_)
  refine lpS 12 (fun i (_ : Unit) => TT g (vt_R 0) 0 0 D_X12_shopAt none 2 [some (.ref (g.2.1 168)), some (.int (nI p)), some (.int (nI i))] [] σ _) (fun i _ => ∀ j, j < i → A j ≠ some p) ?_ ?_ 0 () (by omega) (fun j hj => absurd hj (by omega))
  · intro _ hn
    refine s_X12_shopAt_2 g σ _ _ _ ⟨fun _ => ⟨_, rfl, ?_⟩, fun c => absurd (show (12 : Int32) ≤ 12 from by decide) c⟩
    cases hb : Bf A 12 p with
    | none => rw [hb] at h; exact h
    | some s => exact absurd (Bf_some hb).2 (hn s (Bf_some hb).1)
  · intro i _ hi hn ih
    refine s_X12_shopAt_2 g σ _ _ _ ⟨fun c => absurd c (nI_ge (b := 12) hi (by omega)), fun _ => ⟨inN hi (by omega), ?_⟩⟩
    rw [nI_clamp (by omega), hst i hi, nI_1]
    refine ⟨fun c => ih () (fun j hj => ?_), fun c => ⟨_, rfl, ?_⟩⟩
    · by_cases e : j = i
      · subst e; exact fun z => c (by rw [z]; rfl)
      · exact hn j (by omega)
    · cases ha : A i with
      | none => rw [ha] at c; exact absurd c.symm (nI_neM1 (by omega))
      | some q =>
        rw [ha] at c
        have hq := hA.2.1 i q ha
        have : q = p := nI_inj c (by omega) (by omega)
        subst this
        rw [Bf_of hA hi ha] at h
        exact h
theorem op_move (hI : Inv σ) : vt_Mi g 3 D_X11_move [.ref (g.2.1 0), .int p1, .int p2] σ (fun r σ1 => vt_Mi g 2 D_X12_move [.ref (g.2.1 168), .int p1, .int p2] σ1 (fun r' σ2 => r = r' ∧ Inv σ2)) := by
  obtain ⟨⟨t, nd, ns, nm, nl, lv, hN, hF, hR, hD, hS, hM, hL, hE, hV⟩, h2⟩ := id hI
  obtain ⟨⟨bt, bd, bs, bm, bl, bv⟩, ⟨xt, xv, xd, xs, xm, xl⟩, ⟨yt, yd, ys, ym, yl, yv⟩⟩ := id hN
  have xt : σ 1 9 = nI t := xt
  have xv : σ 1 8 = nI lv := xv
  have xd : σ 4 2 = nI nd := xd
  have xs : σ 7 7 = nI ns := xs
  have xm : σ 15 3 = nI nm := xm
  have xl : σ 19 5 = nI nl := xl
  have hD : A_doors nd (σ 5) (σ 6) (σ 169) := hD
  have hS : A_shops ns (σ 8) (σ 9) (σ 10) (σ 11) (σ 12) (σ 13) (σ 14) (σ 169) := hS
  obtain ⟨ms, mt, mp, hmv⟩ := id hM
  have hmv : A_mv t ns nm (σ 16) (σ 17) (σ 18) (σ 169) ms mt mp := hmv
  have hs : ∀ a : Int32, (¬ a < 0 ∧ ¬ σ 7 7 ≤ a) ↔ (¬ a < 0 ∧ ¬ σ 169 2 - 1 < a) := fun a => by rw [xs, ys]; exact shop_has (by omega)
  have hRel : RelN t nd ns nm nl lv (fun k => σ (1 + k)) (σ 169) := ⟨hN, hF, hR, hD, hS, hM, hL, hE, hV⟩
  by_cases c1 : ¬ p1 < 0 ∧ ¬ σ 7 7 ≤ p1
  rotate_left
  · exact mI ok_X11_move.1 rfl rfl rfl (s_X11_move_0 g σ _ p1 p2 ⟨fun c => absurd c c1, fun _ => ⟨_, rfl, mI ok_X12_move.1 rfl rfl rfl (s_X12_move_0 g _ _ p1 p2 ⟨fun c => absurd ((hs p1).mpr c) c1, fun _ => ⟨_, rfl, rfl, hI⟩⟩)⟩⟩)
  have c1' := (hs p1).mp c1
  by_cases c2 : p2 = -1000000005 ∨ (¬ p2 < 0 ∧ ¬ 11 < p2)
  rotate_left
  · exact mI ok_X11_move.1 rfl rfl rfl (s_X11_move_0 g σ _ p1 p2 ⟨fun _ => ⟨fun c => absurd (Or.inl c) c2, fun _ => ⟨fun c => absurd (Or.inr c) c2, fun _ => ⟨_, rfl, mI ok_X12_move.1 rfl rfl rfl (s_X12_move_0 g _ _ p1 p2 ⟨fun _ => ⟨fun c => absurd (Or.inl c) c2, fun _ => ⟨fun c => absurd (Or.inr c) c2, fun _ => ⟨_, rfl, rfl, hI⟩⟩⟩, fun c => absurd c1' c⟩)⟩⟩⟩, fun c => absurd c1 c⟩)
  have c1n := c1
  rw [xs] at c1n
  obtain ⟨s, hss, rfl⟩ := rngL c1n.1 c1n.2 (by omega)
  have hm : t ≤ t := Nat.le_refl _
  -- the rest, from the look on
  have LK : ∀ Φ : vt_Sg → Prop, (∀ τ, Fl σ τ → CR τ (fun s => plc ms mt mp t s nm) nd → Φ τ) → vt_Mv g 2 D_X2_look [.ref (g.2.1 116), .int (σ 1 9)] σ Φ := by
    intro Φ h
    rw [xt]
    exact c_X2_look (σ := σ) (n := σ 169) hmv xm bm bs xs bd xd bt (m := t) (by omega) _ (fun τ hl _ hC => h τ hl hC)
  have hA := hmv.inj bs t
  have hlt := hmv.lt t
  have FS : ∀ (υ : vt_Sg), υ 169 = σ 169 → ∀ Φ : vt_Sg → Prop, (∀ f : Nat → Int32, (∀ s, s < 12 → f s = opM (plc ms mt mp t s nm)) → Φ (su υ 175 f)) → vt_Mv g 1 D_X12_findStands [.ref (g.2.1 168), .int (υ 169 0)] υ Φ := by
    intro υ e Φ h
    rw [e, yt]
    exact c_X12_findStands (σ := υ) (t := t) (ns := ns) (nm := nm) (m1 := σ 16) (m2 := σ 17) (m3 := σ 18) (ms := ms) (mt := mt) (mp := mp) (by rw [e]; exact ys) (by rw [e]; exact ym) bm (by rw [e]; exact hmv) bs bt (by omega) Φ h
  generalize hAA : (fun s => plc ms mt mp t s nm) = A at LK hA
  have FS : ∀ (υ : vt_Sg), υ 169 = σ 169 → ∀ Φ : vt_Sg → Prop, (∀ f : Nat → Int32, (∀ s, s < 12 → f s = opM (A s)) → Φ (su υ 175 f)) → vt_Mv g 1 D_X12_findStands [.ref (g.2.1 168), .int (υ 169 0)] υ Φ := fun υ e Φ h => FS υ e Φ (fun f hf => h f (fun s hs => by rw [hf s hs, ← hAA]))
  have AA : ∀ s, plc ms mt mp t s nm = A s := fun s => by rw [← hAA]
  have same : ∀ τ, Fl σ τ → ∀ f, Inv (su τ 175 f) := fun τ hl f => hI.fr (fun k hk => by rw [su_ne (by omega)]; exact hl.at k (by omega))
  -- a move is added on both sides
  have ADD : ∀ τ, Fl σ τ → ∀ o : Option Nat, (∀ p, o = some p → p < 12 ∧ ∀ s', A s' ≠ some p) → nm < 200 → ∀ (f n' : Nat → Int32), (∀ j, j ≠ 3 → j ≠ 140 + nm → n' j = σ 169 j) → n' 3 = nI (nm + 1) → n' (140 + nm) = nI (opC o + 13 * s + 156 * t) →
      Inv (su (su (su (su (su (su τ 16 (upd (τ 16) nm (nI s))) 17 (upd (τ 17) nm (nI t))) 18 (upd (τ 18) nm (opN o))) 15 (upd (τ 15) 3 (nI (nm + 1)))) 175 f) 169 n') := by
    intro τ hl o ho hb f n' n1 n2 n3
    have hrel : RelN t nd ns nm nl lv (fun k => τ (1 + k)) (σ 169) := hRel.cg (fun k hk => hl.at (1 + k) (by omega))
    have hmv' : A_mv t ns nm (τ 16) (τ 17) (τ 18) (σ 169) ms mt mp := by rw [hl.at 16 (by omega), hl.at 17 (by omega), hl.at 18 (by omega)]; exact hmv
    have key := (RelN.mv (x' := fun k => su (su (su (su (su (su τ 16 (upd (τ 16) nm (nI s))) 17 (upd (τ 17) nm (nI t))) 18 (upd (τ 18) nm (opN o))) 15 (upd (τ 15) 3 (nI (nm + 1)))) 175 f) 169 n' (1 + k)) (n' := n') hrel hmv' hb hss (o := o) (fun p e => ⟨(ho p e).1, fun s' => by rw [AA]; exact (ho p e).2 s'⟩) (fun k h1 h2 h3 h4 h5 => by simp (disch := omega) only [su_ne]) rfl rfl rfl rfl n1 n2 n3).1
    have I2 : Inv τ := hI.fr (fun k hk => hl.at k (by omega))
    exact ⟨⟨t, nd, ns, nm + 1, nl, lv, key⟩, I2.2.1.cg (fun k hk => by simp (disch := omega) only [su_ne]), I2.2.2⟩
  have opE : ∀ o : Option Nat, (∀ w, o = some w → w < 12) → (0 ≤ opM o → opN o = opM o) ∧ (¬ 0 ≤ opM o → opN o = -1000000005) := by
    intro o ho
    cases o with
    | none => exact ⟨fun c => absurd c (by decide), fun _ => rfl⟩
    | some w => exact ⟨fun _ => rfl, fun c => absurd (nI_pos' (by have := ho w rfl; omega)) c⟩
  have ix : vp_in (nI s) 12 := inN (by omega) (by omega)
  have es : ∀ (υ : vt_Sg) (f : Nat → Int32), su υ 175 f 175 (nI s).toNatClampNeg = f s := fun υ f => by rw [nI_clamp (by omega)]; rfl
  by_cases z : p2 = -1000000005
  · subst z
    have M : ∀ (r : Int32) (υ : vt_Sg), υ 169 = σ 169 → (∀ f : Nat → Int32, (∀ s, s < 12 → f s = opM (A s)) → (opM (A s) = -1 → r = -1000000002 ∧ Inv (su υ 175 f)) ∧ (¬ opM (A s) = -1 → (nm < 200 → r = opN (A s) ∧ ∀ n' : Nat → Int32, (∀ j, j ≠ 3 → j ≠ 140 + nm → n' j = σ 169 j) → n' 3 = nI (nm + 1) → n' (140 + nm) = nI (opC none + 13 * s + 156 * t) → Inv (su (su υ 175 f) 169 n')) ∧ (nm = 200 → r = -1000000003 ∧ Inv (su υ 175 f)))) → vt_Mi g 2 D_X12_move [.ref (g.2.1 168), .int (nI s), .int (-1000000005)] υ (fun r' σ2 => r = r' ∧ Inv σ2) := by
      intro r υ e H
      refine mI ok_X12_move.1 rfl rfl rfl (s_X12_move_0 g υ _ (nI s) (-1000000005) ⟨fun _ => ⟨fun _ => FS υ e _ (fun f hf => ⟨ix, ?_⟩), fun c => absurd rfl c⟩, fun c => absurd (by rw [e]; exact c1') c⟩)
      obtain ⟨H1, H2⟩ := H f hf
      rw [es, hf s (by omega)]
      have e3 : su υ 175 f 169 3 = nI nm := by show υ 169 3 = _; rw [e]; exact ym
      refine ⟨fun c => ⟨_, rfl, H1 c⟩, fun c => ⟨fun d => ?_, fun d => ⟨_, rfl, (H2 c).2 ?_⟩⟩⟩
      · have hb : nm < 200 := by
          rcases Nat.lt_or_ge nm 200 with q | q
          · exact q
          · exact absurd (e3.trans (by rw [show nm = 200 by omega]; rfl)) d
        refine c_X12_moves (σ := su υ 175 f) (o := none) (s := s) (t := t) e3 (by show υ 169 0 = _; rw [e]; exact yt) hb _ (fun n' a1 a2 a3 => ?_)
        have a1 : ∀ j, j ≠ 3 → j ≠ 140 + nm → n' j = σ 169 j := fun j b1 b2 => (a1 j b1 b2).trans (by show υ 169 j = _; rw [e])
        obtain ⟨k1, k2⟩ := opE (A s) (hA.2.1 s)
        exact ⟨fun b => ⟨_, rfl, ((H2 c).1 hb).1.trans (k1 b), ((H2 c).1 hb).2 n' a1 a2 a3⟩, fun b => ⟨_, rfl, ((H2 c).1 hb).1.trans (k2 b), ((H2 c).1 hb).2 n' a1 a2 a3⟩⟩
      · rw [e3] at d
        exact nI_inj (b := 200) d (by omega) (by omega)
    refine mI ok_X11_move.1 rfl rfl rfl (s_X11_move_0 g σ _ (nI s) (-1000000005) ⟨fun _ => ⟨fun _ => LK _ (fun τ hl hC => ⟨ix, ?_⟩), fun c => absurd rfl c⟩, fun c => absurd c1 c⟩)
    have f169 : τ 169 = σ 169 := hl.at 169 (by omega)
    have f15 : τ 15 3 = nI nm := by rw [hl.at 15 (by omega)]; exact xm
    have f1 : τ 1 9 = nI t := by rw [hl.at 1 (by omega)]; exact xt
    rw [nI_clamp (by omega), hC.1 s (by omega), f15, f1]
    have on := opN_none12 (hA.2.1 s)
    have om : opM (A s) = -1 ↔ A s = none := by
      cases ha : A s with
      | none => exact ⟨fun _ => rfl, fun _ => rfl⟩
      | some q => exact ⟨fun c => absurd c (nI_neM1 (by have := hA.2.1 s q ha; omega)), fun c => by cases c⟩
    refine ⟨fun c => ⟨_, rfl, M _ τ f169 (fun f hf => ⟨fun _ => ⟨rfl, same τ hl f⟩, fun d => absurd (om.mpr (on.mp c)) d⟩)⟩, fun c => ⟨fun d => c_X7_add (σ := τ) f15 ((nI_ltI (b := 200) (by omega) (by omega)).mp d) _ ⟨_, rfl, M _ _ f169 (fun f hf => ⟨fun q => absurd (on.mpr (om.mp q)) c, fun _ => ⟨fun hb => ⟨rfl, fun n' a1 a2 a3 => ADD τ hl none (fun p e => by cases e) hb f n' a1 a2 a3⟩, fun q => absurd d (by rw [q]; decide)⟩⟩)⟩, fun d => ⟨_, rfl, M _ τ f169 (fun f hf => ⟨fun q => absurd (on.mpr (om.mp q)) c, fun _ => ⟨fun q => absurd (nI_lt (b := 200) q (by omega)) d, fun _ => ⟨rfl, same τ hl f⟩⟩⟩)⟩⟩⟩
  · obtain ⟨p, hp, rfl⟩ := rng (c2.resolve_left z).1 (c2.resolve_left z).2 (n := 11) rfl
    have c2 := c2.resolve_left z
    have M : ∀ (r : Int32) (υ : vt_Sg), υ 169 = σ 169 → (∀ f : Nat → Int32, (∀ s, s < 12 → f s = opM (A s)) → (opM (A s) = nI p → r = -1000000002 ∧ Inv (su υ 175 f)) ∧ (¬ opM (A s) = nI p → (opM (Bf A 12 p) < 0 → (nm < 200 → r = opN (A s) ∧ ∀ n' : Nat → Int32, (∀ j, j ≠ 3 → j ≠ 140 + nm → n' j = σ 169 j) → n' 3 = nI (nm + 1) → n' (140 + nm) = nI (opC (some p) + 13 * s + 156 * t) → Inv (su (su υ 175 f) 169 n')) ∧ (nm = 200 → r = -1000000003 ∧ Inv (su υ 175 f))) ∧ (¬ opM (Bf A 12 p) < 0 → r = -1000000002 ∧ Inv (su υ 175 f)))) → vt_Mi g 2 D_X12_move [.ref (g.2.1 168), .int (nI s), .int (nI p)] υ (fun r' σ2 => r = r' ∧ Inv σ2) := by
      intro r υ e H
      refine mI ok_X12_move.1 rfl rfl rfl (s_X12_move_0 g υ _ (nI s) (nI p) ⟨fun _ => ⟨fun c => absurd c z, fun _ => ⟨fun _ => FS υ e _ (fun f hf => ⟨ix, ?_⟩), fun c => absurd c2 c⟩⟩, fun c => absurd (by rw [e]; exact c1') c⟩)
      obtain ⟨H1, H2⟩ := H f hf
      rw [es, hf s (by omega)]
      have e3 : su υ 175 f 169 3 = nI nm := by show υ 169 3 = _; rw [e]; exact ym
      refine ⟨fun c => ⟨_, rfl, H1 c⟩, fun c => ⟨fun d => absurd d c2.1, fun _ => c_X12_shopAt (σ := su υ 175 f) hf hA (by omega) _ ⟨fun y => ⟨fun d => ?_, fun d => ⟨_, rfl, ((H2 c).1 y).2 ?_⟩⟩, fun y => ⟨_, rfl, (H2 c).2 y⟩⟩⟩⟩
      · have hb : nm < 200 := by
          rcases Nat.lt_or_ge nm 200 with q | q
          · exact q
          · exact absurd (e3.trans (by rw [show nm = 200 by omega]; rfl)) d
        refine c_X12_moves (σ := su υ 175 f) (o := some p) (s := s) (t := t) e3 (by show υ 169 0 = _; rw [e]; exact yt) hb _ (fun n' a1 a2 a3 => ?_)
        have a1 : ∀ j, j ≠ 3 → j ≠ 140 + nm → n' j = σ 169 j := fun j b1 b2 => (a1 j b1 b2).trans (by show υ 169 j = _; rw [e])
        obtain ⟨k1, k2⟩ := opE (A s) (hA.2.1 s)
        exact ⟨fun b => ⟨_, rfl, (((H2 c).1 y).1 hb).1.trans (k1 b), (((H2 c).1 y).1 hb).2 n' a1 a2 a3⟩, fun b => ⟨_, rfl, (((H2 c).1 y).1 hb).1.trans (k2 b), (((H2 c).1 y).1 hb).2 n' a1 a2 a3⟩⟩
      · rw [e3] at d
        exact nI_inj (b := 200) d (by omega) (by omega)
    refine mI ok_X11_move.1 rfl rfl rfl (s_X11_move_0 g σ _ (nI s) (nI p) ⟨fun _ => ⟨fun c => absurd c z, fun _ => ⟨fun _ => LK _ (fun τ hl hC => ⟨ix, ?_⟩), fun c => absurd c2 c⟩⟩, fun c => absurd c1 c⟩)
    have f169 : τ 169 = σ 169 := hl.at 169 (by omega)
    have f15 : τ 15 3 = nI nm := by rw [hl.at 15 (by omega)]; exact xm
    have f1 : τ 1 9 = nI t := by rw [hl.at 1 (by omega)]; exact xt
    rw [nI_clamp (by omega), nI_clamp (by omega), hC.1 s (by omega), hC.2.1 p (by omega), f15, f1]
    have bn := opN_none12 (o := Bf A 12 p) (fun w e => (Bf_some e).1)
    have bm' := opM_neg (o := Bf A 12 p) (fun w e => (Bf_some e).1)
    have os : opN (A s) = nI p ↔ opM (A s) = nI p := by
      cases A s with
      | none => exact ⟨fun c => absurd c (by exact fun q => z q.symm), fun c => absurd c.symm (nI_neM1 (by omega))⟩
      | some q => exact Iff.rfl
    have fre : opN (Bf A 12 p) = -1000000005 → ∀ p', some p = some p' → p' < 12 ∧ ∀ s', A s' ≠ some p' := by
      intro e p' e'
      cases e'
      refine ⟨by omega, fun s' => ?_⟩
      rcases Nat.lt_or_ge s' 12 with q | q
      · exact Bf_none (bn.mp e) s' q
      · rw [hA.2.2 s' q]; exact fun y => by cases y
    refine ⟨fun c => ⟨_, rfl, M _ τ f169 (fun f hf => ⟨fun _ => ⟨rfl, same τ hl f⟩, fun d => absurd (os.mp c) d⟩)⟩, fun c => ⟨inN (by omega) (by omega), fun y => ⟨fun d => c_X7_add (σ := τ) f15 ((nI_ltI (b := 200) (by omega) (by omega)).mp d) _ ⟨_, rfl, M _ _ f169 (fun f hf => ⟨fun q => absurd (os.mpr q) c, fun _ => ⟨fun _ => ⟨fun hb => ⟨rfl, fun n' a1 a2 a3 => ADD τ hl (some p) (fre y) hb f n' a1 a2 a3⟩, fun q => absurd d (by rw [q]; decide)⟩, fun q => absurd (bm'.mpr (bn.mp y)) q⟩⟩)⟩, fun d => ⟨_, rfl, M _ τ f169 (fun f hf => ⟨fun q => absurd (os.mpr q) c, fun _ => ⟨fun _ => ⟨fun q => absurd (nI_lt (b := 200) q (by omega)) d, fun _ => ⟨rfl, same τ hl f⟩⟩, fun q => absurd (bm'.mpr (bn.mp y)) q⟩⟩)⟩⟩, fun y => ⟨_, rfl, M _ τ f169 (fun f hf => ⟨fun q => absurd (os.mpr q) c, fun _ => ⟨fun q => absurd (bn.mpr (bm'.mp q)) y, fun _ => ⟨rfl, same τ hl f⟩⟩⟩)⟩⟩⟩
end OPS9
