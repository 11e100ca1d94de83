/-! OPERATIONS: broken -/
section OPS11
variable {g : vt_GT} {σ : vt_Sg} {p1 p2 p3 p4 p5 : Int32} {A : Nat → Option Nat} {ns : Nat}
/-- two that stand too near to each other at p and q -/
def brk (so ne : Nat → Int32) (a : Nat) (p : Int32) (c : Nat) (q : Int32) : Bool := decide (so a = so c) && decide (¬ (if ne a < ne c then ne c else ne a) < apt p q)
def brp (A : Nat → Option Nat) (so ne : Nat → Int32) (a c : Nat) : Bool := (A a).isSome && ((A c).isSome && brk so ne a (opM (A a)) c (opM (A c)))
theorem c_X12_breaks {k so pu lu ne sp w : Nat → Int32} (hns : ns ≤ 12) (hS : A_shops ns k so pu lu ne sp w (σ 169)) {a c : Nat} (ha : a < ns) (hc : c < ns) {p q : Int32} (Φ : Int32 → vt_Sg → Prop) (h : Φ (ind (brk so ne a p c q)) σ) : vt_Mi g 1 D_X12_breaks [.ref (g.2.1 168), .int (nI a), .int p, .int (nI c), .int q] σ Φ := by
  have e1 : (30 : Int32) + 8 * nI a + 5 = nI (30 + 8 * a + 5) := shop_ix (f := 5)
  have e2 : (30 : Int32) + 8 * nI c + 5 = nI (30 + 8 * c + 5) := shop_ix (f := 5)
  have e3 : (30 : Int32) + 8 * nI a + 1 = nI (30 + 8 * a + 1) := shop_ix (f := 1)
  have e4 : (30 : Int32) + 8 * nI c + 1 = nI (30 + 8 * c + 1) := shop_ix (f := 1)
  have v1 : σ 169 (30 + 8 * a + 5) = ne a := by rw [show 30 + 8 * a + 5 = 35 + 8 * a by omega]; exact (hS a ha).2.2.2.2.2.1
  have v2 : σ 169 (30 + 8 * c + 5) = ne c := by rw [show 30 + 8 * c + 5 = 35 + 8 * c by omega]; exact (hS c hc).2.2.2.2.2.1
  have v3 : σ 169 (30 + 8 * a + 1) = so a := by rw [show 30 + 8 * a + 1 = 31 + 8 * a by omega]; exact (hS a ha).2.1
  have v4 : σ 169 (30 + 8 * c + 1) = so c := by rw [show 30 + 8 * c + 1 = 31 + 8 * c by omega]; exact (hS c hc).2.1
  refine mI ok_X12_breaks.1 rfl rfl rfl (s_X12_breaks_0 g σ _ (nI a) p (nI c) q ?_)
  rw [e1, e2, e3, e4, nI_clamp (by omega), nI_clamp (by omega), nI_clamp (by omega), nI_clamp (by omega), v1, v2, v3, v4]
  refine ⟨inN (by omega) (by omega), inN (by omega) (by omega), inN (by omega) (by omega), inN (by omega) (by omega), fun z => ⟨_, rfl, ?_⟩, fun z => ⟨fun y => ⟨_, rfl, ?_⟩, fun y => ⟨_, rfl, ?_⟩⟩⟩
  · have t : brk so ne a p c q = false := by unfold brk; rw [decide_eq_false z]; rfl
    rw [t] at h; exact h
  · have t : brk so ne a p c q = false := by
      have t2 : decide (¬ (if ne a < ne c then ne c else ne a) < apt p q) = false := decide_eq_false (fun x => x y)
      unfold brk; rw [t2, Bool.and_false]
    rw [t] at h; exact h
  · have t : brk so ne a p c q = true := by
      have t2 : decide (¬ (if ne a < ne c then ne c else ne a) < apt p q) = true := decide_eq_true y
      unfold brk; rw [t2, decide_eq_true z]; rfl
    rw [t] at h; exact h
/-- the pairs of a -/
def prs (A : Nat → Option Nat) (so ne : Nat → Int32) (n a : Nat) : Int32 := sm n (fun c => ind (decide (a < c) && brp A so ne a c))
theorem prs_0 {so ne : Nat → Int32} {a : Nat} : ∀ n, n ≤ a + 1 → prs A so ne n a = 0 := fun n hn => sm_z (fun c hc => by rw [decide_eq_false (by omega)]; rfl)
theorem brp_l {so ne : Nat → Int32} {a c : Nat} (h : A a = none) : brp A so ne a c = false := by unfold brp; rw [h]; rfl
theorem brp_r {so ne : Nat → Int32} {a c : Nat} (h : A c = none) : brp A so ne a c = false := by unfold brp; rw [h]; cases (A a).isSome <;> rfl
theorem prs_more (hlt : ∀ s, ns ≤ s → A s = none) (hns : ns ≤ 12) {so ne : Nat → Int32} {a : Nat} : prs A so ne 12 a = prs A so ne ns a := sm_more hns (fun c hc _ => by rw [brp_r (hlt c hc), Bool.and_false]; rfl)
theorem prs_none {so ne : Nat → Int32} {a : Nat} (h : A a = none) : prs A so ne 12 a = 0 := sm_z (fun c _ => by rw [brp_l h, Bool.and_false]; rfl)
theorem prs_all (hlt : ∀ s, ns ≤ s → A s = none) (hns : ns ≤ 12) {so ne : Nat → Int32} : sm 12 (prs A so ne 12) = sm ns (prs A so ne ns) := by
  rw [sm_more hns (fun a ha _ => prs_none (hlt a ha))]
  exact sm_congr (fun a _ => prs_more hlt hns)
theorem prs_s {so ne : Nat → Int32} {a c : Nat} (h : a < c) : prs A so ne (c + 1) a = prs A so ne c a + ind (brp A so ne a c) := by
  show _ + ind (decide (a < c) && brp A so ne a c) = _
  rw [decide_eq_true h]; rfl
theorem op_broken (hI : Inv σ) : vt_Mi g 3 D_X11_broken [.ref (g.2.1 0)] σ (fun r σ1 => vt_Mi g 2 D_X12_broken [.ref (g.2.1 168)] σ1 (fun r' σ2 => r = r' ∧ Inv σ2)) := by
  obtain ⟨⟨t, nd, ns, nm, nl, lv, hN, hF, hR, hD, hS, hM, hL, hE, hV⟩, h2⟩ := id hI
  obtain ⟨⟨bt, bd, bs, bm, bl, bv⟩, ⟨xt, xv, xd, xs, xm, xl⟩, ⟨yt, yd, ys, ym, yl, yv⟩⟩ := id hN
  have xt : σ 1 9 = nI t := xt
  have xv : σ 1 8 = nI lv := xv
  have xd : σ 4 2 = nI nd := xd
  have xs : σ 7 7 = nI ns := xs
  have xm : σ 15 3 = nI nm := xm
  have xl : σ 19 5 = nI nl := xl
  have hD : A_doors nd (σ 5) (σ 6) (σ 169) := hD
  have hS : A_shops ns (σ 8) (σ 9) (σ 10) (σ 11) (σ 12) (σ 13) (σ 14) (σ 169) := hS
  obtain ⟨ms, mt, mp, hmv⟩ := id hM
  have hmv : A_mv t ns nm (σ 16) (σ 17) (σ 18) (σ 169) ms mt mp := hmv
  have LK : ∀ Φ : vt_Sg → Prop, (∀ τ, Fl σ τ → CR τ (fun s => plc ms mt mp t s nm) nd → Φ τ) → vt_Mv g 2 D_X2_look [.ref (g.2.1 116), .int (σ 1 9)] σ Φ := by
    intro Φ h
    rw [xt]
    exact c_X2_look (σ := σ) (n := σ 169) hmv xm bm bs xs bd xd bt (m := t) (by omega) _ (fun τ hl _ hC => h τ hl hC)
  have hA := hmv.inj bs t
  have hlt := hmv.lt t
  have FS : ∀ (υ : vt_Sg), υ 169 = σ 169 → ∀ Φ : vt_Sg → Prop, (∀ f : Nat → Int32, (∀ s, s < 12 → f s = opM (plc ms mt mp t s nm)) → Φ (su υ 175 f)) → vt_Mv g 1 D_X12_findStands [.ref (g.2.1 168), .int (υ 169 0)] υ Φ := by
    intro υ e Φ h
    rw [e, yt]
    exact c_X12_findStands (σ := υ) (t := t) (ns := ns) (nm := nm) (m1 := σ 16) (m2 := σ 17) (m3 := σ 18) (ms := ms) (mt := mt) (mp := mp) (by rw [e]; exact ys) (by rw [e]; exact ym) bm (by rw [e]; exact hmv) bs bt (by omega) Φ h
  generalize hAA : (fun s => plc ms mt mp t s nm) = A at LK hA
  have FS : ∀ (υ : vt_Sg), υ 169 = σ 169 → ∀ Φ : vt_Sg → Prop, (∀ f : Nat → Int32, (∀ s, s < 12 → f s = opM (A s)) → Φ (su υ 175 f)) → vt_Mv g 1 D_X12_findStands [.ref (g.2.1 168), .int (υ 169 0)] υ Φ := fun υ e Φ h => FS υ e Φ (fun f hf => h f (fun s hs => by rw [hf s hs, ← hAA]))
  have AA : ∀ s, plc ms mt mp t s nm = A s := fun s => by rw [← hAA]
  have hlt : ∀ s, ns ≤ s → A s = none := fun s hs => by rw [← AA]; exact hlt s hs
  have same : ∀ τ, Fl σ τ → ∀ f, Inv (su τ 175 f) := fun τ hl f => hI.fr (fun k hk => by rw [su_ne (by omega)]; exact hl.at k (by omega))
  refine mI ok_X11_broken.1 rfl rfl rfl (s_X11_broken_0 g σ _ (LK _ (fun τ hl hC => ?_)))
  have f169 : τ 169 = σ 169 := hl.at 169 (by omega)
  have f9 : τ 9 = σ 9 := hl.at 9 (by omega)
  have f12 : τ 12 = σ 12 := hl.at 12 (by omega)
  have f7 : τ 7 7 = nI ns := by rw [hl.at 7 (by omega)]; exact xs
  have opE : ∀ s, s < 12 → (τ 117 s = -1000000005 ↔ A s = none) ∧ (∀ q, A s = some q → τ 117 s = opM (A s)) := by
    intro s hs
    rw [hC.1 s hs]
    exact ⟨opN_none12 (hA.2.1 s), fun q e => by rw [e]; rfl⟩
  refine lpD ns (fun a => TT g (vt_R 3) 0 0 D_X11_broken none 18 [some (.ref (g.2.1 0)), some (.int (sm a (prs A (σ 9) (σ 12) ns))), some (.int (nI a)), none] [] τ _) ?_ ?_
  · refine s_X11_broken_18 g _ _ _ _ ⟨fun _ => ⟨_, rfl, mI ok_X12_broken.1 rfl rfl rfl (s_X12_broken_0 g τ _ (FS τ f169 _ (fun f hf => ?_)))⟩, fun c => absurd (by rw [f7]; exact nI_le (Nat.le_refl _) (by omega)) c⟩
    rw [← prs_all hlt bs]
    have SS : A_shops ns (σ 8) (σ 9) (σ 10) (σ 11) (σ 12) (σ 13) (σ 14) (su τ 175 f 169) := by show A_shops ns _ _ _ _ _ _ _ (τ 169); rw [f169]; exact hS
    refine lpD 12 (fun a => TT g (vt_R 2) 0 0 D_X12_broken none 14 [some (.ref (g.2.1 168)), some (.int (sm a (prs A (σ 9) (σ 12) 12))), some (.int (nI a)), none] [] (su τ 175 f) _) ?_ ?_
    · exact s_X12_broken_14 g _ _ _ _ ⟨fun _ => ⟨_, rfl, rfl, same τ hl f⟩, fun c => absurd (show (12 : Int32) ≤ 12 from by decide) c⟩
    · intro a ha ih
      refine s_X12_broken_14 g _ _ _ _ ⟨fun c => absurd c (nI_ge (b := 12) ha (by omega)), fun _ => ?_⟩
      have ih : TT g (vt_R 2) 0 0 D_X12_broken none 14 [some (.ref (g.2.1 168)), some (.int (sm a (prs A (σ 9) (σ 12) 12) + prs A (σ 9) (σ 12) 12 a)), some (.int (nI (a + 1))), none] [] (su τ 175 f) _ := ih
      generalize sm a (prs A (σ 9) (σ 12) 12) = X at ih
      have l := lpS 12 (fun c (_ : Unit) => TT g (vt_R 2) 0 0 D_X12_broken none 24 [some (.ref (g.2.1 168)), some (.int (X + prs A (σ 9) (σ 12) c a)), some (.int (nI a)), some (.int (nI c))] [] (su τ 175 f) (fun v σ' => ∃ r', v = some (Value.int r') ∧ sm 12 (prs A (σ 9) (σ 12) 12) = r' ∧ Inv σ')) (fun c _ => a < c)
        (fun _ _ => s_X12_broken_24 g _ _ _ _ _ ⟨fun _ => by rw [nI_1]; exact ih, fun c => absurd (show (12 : Int32) ≤ 12 from by decide) c⟩)
        (by
          intro c _ hc hac jh
          have jh := jh () (by omega)
          rw [prs_s hac, ← Int32.add_assoc] at jh
          have no : brp A (σ 9) (σ 12) a c = false → TT g (vt_R 2) 0 0 D_X12_broken none 24 [some (.ref (g.2.1 168)), some (.int (X + prs A (σ 9) (σ 12) c a + 0)), some (.int (nI a)), some (.int (nI c + 1))] [] (su τ 175 f) (fun v σ' => ∃ r', v = some (Value.int r') ∧ sm 12 (prs A (σ 9) (σ 12) 12) = r' ∧ Inv σ') := by
            intro z
            rw [z] at jh
            rw [nI_1]; exact jh
          refine s_X12_broken_24 g _ _ _ _ _ ⟨fun z => absurd z (nI_ge (b := 12) hc (by omega)), fun _ => ⟨inN (by omega) (by omega), ?_⟩⟩
          have ea : su τ 175 f 175 (nI a).toNatClampNeg = opM (A a) := by rw [nI_clamp (by omega)]; exact hf a ha
          have ec : su τ 175 f 175 (nI c).toNatClampNeg = opM (A c) := by rw [nI_clamp (by omega)]; exact hf c hc
          rw [ea, ec]
          have na := opM_neg (hA.2.1 a)
          have nc := opM_neg (hA.2.1 c)
          refine ⟨fun z => no (brp_l (na.mp z)), fun z => ⟨inN (by omega) (by omega), fun y => no (brp_r (nc.mp y)), fun y => ?_⟩⟩
          have la : a < ns := Nat.lt_of_not_le (fun q => z (na.mpr (hlt a q)))
          have lc : c < ns := Nat.lt_of_not_le (fun q => y (nc.mpr (hlt c q)))
          have sa : (A a).isSome = true := by
            cases e : A a with
            | none => exact absurd (na.mpr e) z
            | some _ => rfl
          have sc : (A c).isSome = true := by
            cases e : A c with
            | none => exact absurd (nc.mpr e) y
            | some _ => rfl
          have eb : brp A (σ 9) (σ 12) a c = brk (σ 9) (σ 12) a (opM (A a)) c (opM (A c)) := by unfold brp; rw [sa, sc]; rfl
          refine c_X12_breaks (σ := su τ 175 f) bs SS la lc _ ?_
          rw [eb] at jh no
          cases eq : brk (σ 9) (σ 12) a (opM (A a)) c (opM (A c)) with
          | false => exact ⟨fun _ => no eq, fun z => absurd rfl z⟩
          | true =>
            rw [eq] at jh
            refine ⟨fun z => absurd z (by decide), fun _ => ?_⟩
            rw [nI_1]; exact jh)
        (a + 1) () (by omega) (by omega)
      rw [nI_1]
      have l : TT g (vt_R 2) 0 0 D_X12_broken none 24 [some (.ref (g.2.1 168)), some (.int (X + prs A (σ 9) (σ 12) (a + 1) a)), some (.int (nI a)), some (.int (nI (a + 1)))] [] (su τ 175 f) (fun v σ' => ∃ r', v = some (Value.int r') ∧ sm 12 (prs A (σ 9) (σ 12) 12) = r' ∧ Inv σ') := l
      rw [prs_0 (a + 1) (by omega), Int32.add_zero] at l
      exact l
  · intro a ha ih
    refine s_X11_broken_18 g _ _ _ _ ⟨fun c => absurd (by rw [f7] at c; exact c) (nI_ge ha (by omega)), fun _ => ?_⟩
    have ih : TT g (vt_R 3) 0 0 D_X11_broken none 18 [some (.ref (g.2.1 0)), some (.int (sm a (prs A (σ 9) (σ 12) ns) + prs A (σ 9) (σ 12) ns a)), some (.int (nI (a + 1))), none] [] τ (fun v σ' => ∃ r, v = some (Value.int r) ∧ vt_Mi g 2 D_X12_broken [.ref (g.2.1 168)] σ' (fun r' σ2 => r = r' ∧ Inv σ2)) := ih
    generalize sm a (prs A (σ 9) (σ 12) ns) = X at ih
    have l := lpS ns (fun c (_ : Unit) => TT g (vt_R 3) 0 0 D_X11_broken none 36 [some (.ref (g.2.1 0)), some (.int (X + prs A (σ 9) (σ 12) c a)), some (.int (nI a)), some (.int (nI c))] [] τ (fun v σ' => ∃ r, v = some (Value.int r) ∧ vt_Mi g 2 D_X12_broken [.ref (g.2.1 168)] σ' (fun r' σ2 => r = r' ∧ Inv σ2))) (fun c _ => a < c)
      (fun _ _ => s_X11_broken_36 g _ _ _ _ _ ⟨fun _ => by rw [nI_1]; exact ih, fun c => absurd (by rw [f7]; exact nI_le (Nat.le_refl _) (by omega)) c⟩)
      (by
        intro c _ hc hac jh
        have jh := jh () (by omega)
        rw [prs_s hac, ← Int32.add_assoc] at jh
        refine s_X11_broken_36 g _ _ _ _ _ ⟨fun z => absurd (by rw [f7] at z; exact z) (nI_ge hc (by omega)), fun _ => ⟨inN (by omega) (by omega), inN (by omega) (by omega), ?_⟩⟩
        rw [nI_clamp (by omega), nI_clamp (by omega), f9, f12, nI_1]
        obtain ⟨a1, a2⟩ := opE a (by omega)
        obtain ⟨b1, b2⟩ := opE c (by omega)
        have eb : brp A (σ 9) (σ 12) a c = true ↔ (¬ τ 117 a = (-1000000005) ∧ ¬ τ 117 c = (-1000000005) ∧ σ 9 a = σ 9 c ∧ ¬ (if (σ 12 a) < (σ 12 c) then (σ 12 c) else (σ 12 a)) < (if 0 ≤ ((τ 117 a) - (τ 117 c)) then ((τ 117 a) - (τ 117 c)) else 0 - ((τ 117 a) - (τ 117 c)))) := by
          cases ea : A a with
          | none => exact ⟨fun z => (by rw [brp_l ea] at z; exact absurd z (by decide)), fun z => absurd (a1.mpr ea) z.1⟩
          | some p =>
            cases ec : A c with
            | none => exact ⟨fun z => (by rw [brp_r ec] at z; exact absurd z (by decide)), fun z => absurd (b1.mpr ec) z.2.1⟩
            | some q =>
              rw [a2 p ea, b2 q ec]
              have n1 : ¬ opM (A a) = -1000000005 := by rw [ea]; exact nI_neNONE (by have := hA.2.1 a p ea; omega)
              have n2 : ¬ opM (A c) = -1000000005 := by rw [ec]; exact nI_neNONE (by have := hA.2.1 c q ec; omega)
              have e : brp A (σ 9) (σ 12) a c = brk (σ 9) (σ 12) a (opM (A a)) c (opM (A c)) := by unfold brp; rw [ea, ec]; rfl
              rw [e]
              unfold brk
              rw [Bool.and_eq_true, decide_eq_true_eq, decide_eq_true_eq]
              exact ⟨fun z => ⟨n1, n2, z.1, z.2⟩, fun z => ⟨z.2.2.1, z.2.2.2⟩⟩
        refine ⟨fun z => ?_, fun z => ?_⟩
        · rw [eb.mpr z] at jh; exact jh
        · have : brp A (σ 9) (σ 12) a c = false := by
            cases e : brp A (σ 9) (σ 12) a c with
            | false => rfl
            | true => exact absurd (eb.mp e) z
          rw [this] at jh
          rw [show X + prs A (σ 9) (σ 12) c a + ind false = X + prs A (σ 9) (σ 12) c a from Int32.add_zero _] at jh
          exact jh)
      (a + 1) () (by omega) (by omega)
    rw [nI_1]
    have l : TT g (vt_R 3) 0 0 D_X11_broken none 36 [some (.ref (g.2.1 0)), some (.int (X + prs A (σ 9) (σ 12) (a + 1) a)), some (.int (nI a)), some (.int (nI (a + 1)))] [] τ (fun v σ' => ∃ r, v = some (Value.int r) ∧ vt_Mi g 2 D_X12_broken [.ref (g.2.1 168)] σ' (fun r' σ2 => r = r' ∧ Inv σ2)) := l
    rw [prs_0 (a + 1) (by omega), Int32.add_zero] at l
    exact l
end OPS11
