/-! OPERATIONS: mix, mixed, check -/
section OPS16
variable {g : vt_GT} {σ τ : vt_Sg} {so ne : Nat → Int32} {A Q : Nat → Option Nat} {t nd ns nm nl lv n m p s mo : Nat} {w p1 p2 : Int32}
def okQ (Q : Nat → Option Nat) : Prop := ∀ p s, Q p = some s → s < 12
def okS (st : StM) : Prop := ∀ q, st.2.2.2 = some q → okQ q
theorem lpF_ok {f : Nat → StM → Bool × StM} {b : Nat → Bool} (hf : ∀ s st, s < 12 → okS st → okS (f s st).2) : ∀ k i (st : StM), i + k ≤ 12 → okS st → okS (lpF f b i k st).2
  | 0, _, _, _, h => h
  | k + 1, i, st, hi, h => by
    rw [lpF]
    by_cases c : b i = true
    · rw [if_pos c]
      by_cases c2 : st.1 = 0
      · rw [if_pos c2]; exact h
      · rw [if_neg c2]
        have h2 := hf i (st.1 - 1, st.2) (by omega) h
        by_cases c3 : (f i (st.1 - 1, st.2)).1 = true
        · rw [if_pos c3]; exact lpF_ok hf k (i + 1) _ (by omega) h2
        · rw [if_neg c3]; exact h2
    · rw [if_neg c]; exact lpF_ok hf k (i + 1) st (by omega) h
theorem pF_ok {my : (Nat → Option Nat) → Nat → Nat → Bool} {wt : Nat → Nat → Int32} : ∀ n A Q w m (st : StM), okQ Q → okS st → okS (pF my wt n A Q w m st).2
  | 0, _, Q, w, m, st, hQ, h => by
    show okS (cmpS Q w (nI m) st)
    unfold cmpS
    by_cases c : st.2.1 < w ∨ (w = st.2.1 ∧ ¬ st.2.2.1 ≤ nI m)
    · rw [if_pos c]; exact fun q e => by cases e; exact hQ
    · rw [if_neg c]; exact h
  | n + 1, A, Q, w, m, st, hQ, h => by
    have h2 := pF_ok (my := my) (wt := wt) n A Q w m st hQ h
    rw [pF]
    by_cases c : (pF my wt n A Q w m st).1 = true
    · rw [if_pos c]
      refine lpF_ok (fun s st hs h => pF_ok n _ _ _ _ st (fun p s' e => ?_) h) 12 0 _ (by omega) h2
      by_cases z : p = 11 - n
      · subst z; rw [upd0_same] at e; cases e; exact hs
      · rw [upd0_ne z] at e; exact hQ p s' e
    · rw [if_neg c]; exact h2
/-- both sides seek the same mix -/
theorem mix_ex (hRel : RelN t nd ns nm nl lv (fun k => σ (1 + k)) (σ 169)) {N : Nat} (hN : N ≤ 50000) : ∃ (ok : Bool) (bw : Int32) (q : Nat → Option Nat), okQ q ∧
    (∀ τ0 : vt_Sg, (∀ k, 1 ≤ k → k < 54 → τ0 k = σ k) → ∀ Φ : Int32 → vt_Sg → Prop, (∀ τ, (∀ k, (k < 116 ∨ 165 < k) → τ k = τ0 k) → (ok = true → τ 123 1 = bw ∧ ∀ p, p < 12 → τ 124 p = opN (q p)) → Φ (ind ok) τ) → vt_Mi g 42 D_X11_seek [.ref (g.2.1 0), .int (nI N)] τ0 Φ) ∧
    (∀ υ0 : vt_Sg, υ0 169 = σ 169 → ∀ Φ : Int32 → vt_Sg → Prop, (∀ υ, FX υ0 υ → (ok = true → υ 168 23 = bw ∧ ∀ p, p < 12 → υ 180 p = opM (q p)) → Φ (if ok = true then 0 else -1000000004) υ) → vt_Mi g 41 D_X12_findMix [.ref (g.2.1 168), .int (nI N)] υ0 Φ) := by
  obtain ⟨⟨⟨bt, bd, bs, bm, bl, bv⟩, ⟨xt, xv, xd, xs, xm, xl⟩, ⟨yt, yd, ys, ym, yl, yv⟩⟩, hF, hR, hD, hS, hM, hL, hE, hV⟩ := id hRel
  have xt : σ 1 9 = nI t := xt
  have xd : σ 4 2 = nI nd := xd
  have xs : σ 7 7 = nI ns := xs
  have xm : σ 15 3 = nI nm := xm
  have hF : A_feet (σ 2) (σ 169) := hF
  have hS : A_shops ns (σ 8) (σ 9) (σ 10) (σ 11) (σ 12) (σ 13) (σ 14) (σ 169) := hS
  obtain ⟨ms, mt, mp, hmv⟩ := id hM
  have hmv : A_mv t ns nm (σ 16) (σ 17) (σ 18) (σ 169) ms mt mp := hmv
  have hA := hmv.inj bs t
  have hlt := hmv.lt t
  generalize hAA : (fun s => plc ms mt mp t s nm) = A at hA
  have AA : ∀ s, plc ms mt mp t s nm = A s := fun s => by rw [← hAA]
  have hlt : ∀ s, ns ≤ s → A s = none := fun s hs => by rw [← AA]; exact hlt s hs
  have hok := pF_ok (my := may (σ 9) (σ 12) ns) (wt := fun s p => σ 14 s * σ 2 p / 100) 12 A (fun _ => none) 0 0 (N, -1, 0, none) (fun p s e => by cases e) (fun q e => by cases e)
  have hbr := pF_br1 (my := may (σ 9) (σ 12) ns) (wt := fun s p => σ 14 s * σ 2 p / 100) (A := A) (Q := fun _ => none) (m := 0) (st := (N, -1, 0, none)) (w := 0) (show (-1 : Int32) < 0 from by decide) 12
  have hX := c_X6_extend (g := g) (so := σ 9) (ne := σ 12) (wt := fun s p => σ 14 s * σ 2 p / 100) (mo := N) bs 12 (by omega) 40 (by omega) A (fun _ => none) 0 0 (N, -1, 0, none)
  have hP := c_X12_putFrom (g := g) (so := σ 9) (ne := σ 12) (wt := fun s p => σ 14 s * σ 2 p / 100) bs σ hS ys (fun s p hs hp => by rw [(hS s hs).2.2.2.2.2.2, (hF p hp).1]) 12 (by omega) 40 (by omega) A (fun _ => none) 0 0 (N, -1, 0, none)
  generalize pF (may (σ 9) (σ 12) ns) (fun s p => σ 14 s * σ 2 p / 100) 12 A (fun _ => none) 0 0 (N, -1, 0, none) = X at hok hbr hX hP
  obtain ⟨q, hq⟩ := Option.isSome_iff_exists.mp hbr
  refine ⟨X.1, X.2.2.1, q, hok q hq, ?_, ?_⟩
  · intro τ0 e0 Φ h
    refine mI ok_X11_seek.1 rfl rfl rfl (s_X11_seek_0 g τ0 _ (nI N) ?_)
    rw [e0 1 (by omega) (by omega), xt]
    have LK : ∀ Φ : vt_Sg → Prop, (∀ τ, Fl τ0 τ → CR τ A nd → Φ τ) → vt_Mv g 2 D_X2_look [.ref (g.2.1 116), .int (nI t)] τ0 Φ := by
      intro Φ h
      refine c_X2_look (σ := τ0) (n := σ 169) (ms := ms) (mt := mt) (mp := mp) (ns := ns) (nm := nm) (nd := nd) (t := t) ?_ ?_ bm bs ?_ bd ?_ bt (m := t) (by omega) _ (fun τ hl _ hC => h τ hl (by rw [← hAA]; exact hC))
      · rw [e0 16 (by omega) (by omega), e0 17 (by omega) (by omega), e0 18 (by omega) (by omega)]; exact hmv
      · rw [e0 15 (by omega) (by omega)]; exact xm
      · rw [e0 7 (by omega) (by omega)]; exact xs
      · rw [e0 4 (by omega) (by omega)]; exact xd
    refine LK _ (fun τ1 f1 hC => ?_)
    have e1 : ∀ k, 1 ≤ k → k < 54 → τ1 k = σ k := fun k h1 h2 => (f1.at k (by omega)).trans (e0 k h1 h2)
    refine mI ok_X6_search.1 rfl rfl rfl (s_X6_search_0 g τ1 _ (nI N) ?_)
    rw [su_su, su_su, su_su]
    refine c_fill (ka := 125) (na := 12) ar_125 (by omega) _ (fun fp hfp _ => ?_)
    generalize hτ2 : su (su τ1 123 (upd (upd (upd (upd (τ1 123) 8 (nI N)) 7 0) 1 (-1)) 2 0)) 125 fp = τ2
    have e2 : ∀ k, k ≠ 123 → k ≠ 125 → τ2 k = τ1 k := fun k a b => by rw [← hτ2, su_ne b, su_ne a]
    have e2a : τ2 123 1 = -1 ∧ τ2 123 2 = 0 ∧ τ2 123 8 = nI N ∧ τ2 123 7 = 0 := by
      rw [← hτ2, su_ne (by omega), su_same]
      refine ⟨?_, ?_, ?_, ?_⟩
      · rw [upd_ne (by omega), upd_same]
      · rw [upd_same]
      · rw [upd_ne (by omega), upd_ne (by omega), upd_ne (by omega), upd_same]
      · rw [upd_ne (by omega), upd_ne (by omega), upd_same]
    have e2b : ∀ p, p < 12 → τ2 125 p = -1000000005 := fun p hp => by rw [← hτ2, su_same]; exact hfp p hp
    -- the rows of each shop
    refine lpS ns (fun i (τ : vt_Sg) => TT g (vt_R 41) 0 0 D_X6_search none 31 [some (.ref (g.2.1 123)), some (.ref (g.2.1 116)), some (.int (nI N)), some (.int (nI i))] [] τ (fun v σ' => ∃ r, v = some (Value.int r) ∧ narrow .boolean (.int r) = .int r ∧ ∃ r', some (Value.int r) = some (Value.int r') ∧ Φ r' σ'))
      (fun i τ => (∀ k, (k < 127 ∨ 151 < k) → τ k = τ2 k) ∧ ∀ s, s < i → (∀ p, p < 12 → τ (127 + s) p = σ 14 s * σ 2 p / 100) ∧ ∀ d, d < 12 → BS (τ (140 + s) d) (fun o => o < ns ∧ rvl (σ 9) (σ 12) s o d = true)) (fun τ3 ⟨i1, i2⟩ => ?_) (fun i τ3 hi ⟨i1, i2⟩ ih => ?_) 0 τ2 (by omega) ⟨fun _ _ => rfl, fun s hs => absurd hs (by omega)⟩
    · have e3 : ∀ k, (k < 123 ∨ 165 < k) → τ3 k = τ1 k := fun k hk => (i1 k (by omega)).trans (e2 k (by omega) (by omega))
      refine s_X6_search_31 g τ3 _ _ _ ⟨fun _ => ?_, fun c => absurd (by rw [e3 7 (by omega), e1 7 (by omega) (by omega), xs]; exact nI_le (Nat.le_refl _) (by omega)) c⟩
      have hC1 : ∀ s, s < 12 → τ1 117 s = opN (A s) := hC.1
      have hC2 : ∀ p, p < 12 → τ1 118 p = opN (Bf A 12 p) := hC.2.1
      have l0 := lpS 12 (fun i (f : Nat → Int32) => TT g (vt_R 41) 0 0 D_X6_search none 62 [some (.ref (g.2.1 123)), some (.ref (g.2.1 116)), some (.int (nI N)), some (.int (nI i))] [] (su τ3 153 f) (fun v σ' => ∃ r, v = some (Value.int r) ∧ narrow .boolean (.int r) = .int r ∧ ∃ r', some (Value.int r) = some (Value.int r') ∧ Φ r' σ'))
        (fun i f => ∀ p, p < i → BS (f p) (mayP (σ 9) (σ 12) ns A p)) (fun f hf => ?_) (fun i f hi hf ih => ?_) 0 (τ3 153) (by omega) (fun p hp => absurd hp (by omega))
      · rw [su_self] at l0; exact l0
      · refine s_X6_search_62 g _ _ _ _ ⟨fun _ => ?_, fun c => absurd (show (12 : Int32) ≤ 12 from by decide) c⟩
        have e4 : ∀ k, k ≠ 153 → su τ3 153 f k = τ3 k := fun k hk => su_ne hk
        refine hX (su τ3 153 f) (by omega) (fun _ _ => rfl) (fun s hs => ?_) (fun p _ hp => ?_) ⟨⟨?_, ?_, ?_, ?_⟩, ⟨Nat.le_refl _, hN⟩, fun p hp => ?_, fun q e => by cases e⟩ _ (fun τ5 f5 X5 => ?_)
        · rw [e4 (127 + s) (by omega), e4 (140 + s) (by omega)]; exact i2 s hs
        · rw [su_same]; exact hf p hp
        · rw [e4 123 (by omega), i1 123 (by omega)]; exact e2a.1
        · rw [e4 123 (by omega), i1 123 (by omega)]; exact e2a.2.1
        · rw [e4 123 (by omega), i1 123 (by omega)]; exact e2a.2.2.1
        · rw [e4 123 (by omega), i1 123 (by omega), Nat.sub_self]; exact e2a.2.2.2
        · rw [e4 125 (by omega), i1 125 (by omega)]; exact e2b p hp
        · have nb : ∀ b : Bool, narrow .boolean (.int (ind b)) = .int (ind b) := fun b => by cases b <;> rfl
          refine ⟨nb _, _, rfl, nb _, _, rfl, h τ5 (fun k hk => ?_) (fun z => ?_)⟩
          · rw [f5 k (by omega) (by omega) (by omega) (by omega), e4 k (by omega), e3 k (by omega), f1.at k (by omega)]
          · obtain ⟨⟨r1, _, _, _⟩, _, _, r7⟩ := X5 z
            exact ⟨r1, r7 q hq⟩
      · refine s_X6_search_62 g _ _ _ _ ⟨fun c => absurd c (nI_ge (b := 12) hi (by omega)), fun _ => ?_⟩
        have e4 : ∀ k, k ≠ 153 → su τ3 153 f k = τ3 k := fun k hk => su_ne hk
        refine c_X6_fitAtFirst (τ := su τ3 153 f) (so := σ 9) (ne := σ 12) (ns := ns) (A := A) (wt := fun s p => σ 14 s * σ 2 p / 100) bs ?_ ?_ ?_ hA hlt (fun s hs => ?_) hi _ (fun x hx => ⟨inN hi (by omega), ?_⟩)
        · rw [e4 7 (by omega), e3 7 (by omega), e1 7 (by omega) (by omega)]; exact xs
        · rw [e4 117 (by omega), e3 117 (by omega)]; exact hC1
        · rw [e4 118 (by omega), e3 118 (by omega)]; exact hC2
        · rw [e4 (127 + s) (by omega), e4 (140 + s) (by omega)]; exact i2 s hs
        · rw [nI_clamp (by omega), su_su, su_same, nI_1]
          refine ih _ (fun p hp => ?_)
          by_cases z : p = i
          · subst z; rw [upd_same]; exact hx
          · rw [upd_ne z]; exact hf p (by omega)
    · have e3 : ∀ k, 1 ≤ k → k < 54 → τ3 k = σ k := fun k h1 h2 => by rw [i1 k (by omega), e2 k (by omega) (by omega), e1 k h1 h2]
      refine s_X6_search_31 g τ3 _ _ _ ⟨fun c => absurd (by rw [e3 7 (by omega) (by omega), xs] at c; exact c) (nI_ge hi (by omega)), fun _ => ?_⟩
      refine c_X6_prepare bs hi (by rw [e3 7 (by omega) (by omega)]; exact xs) _ (fun fa fb ha hb => ?_)
      rw [e3 14 (by omega) (by omega), e3 2 (by omega) (by omega)] at ha
      rw [e3 9 (by omega) (by omega), e3 12 (by omega) (by omega)] at hb
      rw [nI_1]
      refine ih _ ⟨fun k hk => ?_, fun s hs => ?_⟩
      · rw [su_ne (by omega), su_ne (by omega)]; exact i1 k hk
      · by_cases z : s = i
        · subst z
          rw [su_same, su_ne (by omega), su_same]
          exact ⟨ha, hb⟩
        · rw [su_ne (show 127 + s ≠ 140 + i by omega), su_ne (show 127 + s ≠ 127 + i by omega), su_ne (show 140 + s ≠ 140 + i by omega), su_ne (show 140 + s ≠ 127 + i by omega)]
          exact i2 s (by omega)
  · intro υ0 e9 Φ h
    refine mI ok_X12_findMix.1 rfl rfl rfl (s_X12_findMix_0 g υ0 _ (nI N) ?_)
    rw [e9, yt]
    refine c_X12_findStands (σ := υ0) (t := t) (ns := ns) (nm := nm) (m1 := σ 16) (m2 := σ 17) (m3 := σ 18) (ms := ms) (mt := mt) (mp := mp) (by rw [e9]; exact ys) (by rw [e9]; exact ym) bm (by rw [e9]; exact hmv) bs bt (by omega) _ (fun f hf => ?_)
    have l0 := lpS 12 (fun i (f' : Nat → Int32) => TT g (vt_R 41) 0 0 D_X12_findMix none 12 [some (.ref (g.2.1 168)), some (.int (nI N)), some (.int (nI i))] [] (su (su υ0 175 f) 179 f') (fun v σ' => ∃ r, v = some (Value.int r) ∧ Φ r σ')) (fun i f' => ∀ p, p < i → f' p = -1) (fun f' hf' => ?_) (fun i f' hi hf' ih => ?_) 0 (su υ0 175 f 179) (by omega) (fun p hp => absurd hp (by omega))
    · rw [su_self] at l0; exact l0
    · refine s_X12_findMix_12 g _ _ _ _ ⟨fun _ => ?_, fun c => absurd (show (12 : Int32) ≤ 12 from by decide) c⟩
      rw [su_su, su_su, su_su, su_ne (show 168 ≠ 179 by omega), su_ne (show 168 ≠ 175 by omega)]
      refine hP _ hA hlt (fun _ _ => rfl) ?_ ⟨⟨?_, ?_, ?_, ?_⟩, hN, fun s hs => ?_, fun p hp => ?_, fun q e => by cases e⟩ _ (fun υ1 f1 a1 t1 n1 => ?_)
      · rw [su_ne (by omega), su_ne (by omega), su_ne (by omega)]; exact e9
      · rw [su_same, upd_ne (by omega), upd_ne (by omega), upd_ne (by omega), upd_same]
      · rw [su_same, upd_ne (by omega), upd_ne (by omega), upd_same]
      · rw [su_same, upd_ne (by omega), upd_same]
      · rw [su_same, upd_same]
      · rw [su_ne (by omega), su_ne (by omega), su_same, hf s hs, AA]
      · rw [su_ne (by omega), su_same, hf' p hp]; rfl
      · have F0 : FX υ0 υ1 := by
          refine ⟨fun k a1 a2 a3 a4 => ?_, fun j hj => ?_⟩
          · rw [f1.1 k a1 a2 a3 a4, su_ne a1, su_ne a3, su_ne a2]
          · rw [f1.2 j hj, su_same, upd_ne (by omega), upd_ne (by omega), upd_ne (by omega), upd_ne (by omega)]
        cases z : X.1 with
        | true =>
          obtain ⟨⟨r1, _, _, r4⟩, _, _, _, r8⟩ := t1 z
          have H := h υ1 F0 (fun _ => ⟨r1, r8 q hq⟩)
          rw [z] at H
          exact ⟨fun _ => ⟨_, rfl, H⟩, fun c => absurd r4 c⟩
        | false =>
          have H := h υ1 F0 (fun y => by rw [z] at y; cases y)
          rw [z] at H
          exact ⟨fun c => absurd ((n1 z).symm.trans c) (by decide), fun _ => ⟨_, rfl, H⟩⟩
    · refine s_X12_findMix_12 g _ _ _ _ ⟨fun c => absurd c (nI_ge (b := 12) hi (by omega)), fun _ => ⟨inN hi (by omega), ?_⟩⟩
      rw [nI_clamp (by omega), su_su, su_same, nI_1]
      refine ih _ (fun p hp => ?_)
      by_cases z : p = i
      · subst z; rw [upd_same]
      · rw [upd_ne z]; exact hf' p (by omega)
theorem Inv.fx {υ : vt_Sg} (h : Inv τ) (f : FX τ υ) : Inv υ := by
  obtain ⟨j1, j2, j3, j4, j5⟩ := h
  have e : ∀ k, k < 168 ∨ (168 < k ∧ k < 175) → υ k = τ k := fun k hk => f.1 k (by omega) (by omega) (by omega) (by omega)
  refine ⟨?_, ?_, ?_, ?_, ?_⟩
  · rw [e 169 (by omega)]; exact j1.cg (fun k hk => e _ (by omega))
  · rw [e 0 (by omega), f.2 2 (by omega), e 170 (by omega)]; exact j2.cg (fun k hk => e _ (by omega))
  · rw [e 107 (by omega), f.2 4 (by omega), e 110 (by omega), e 171 (by omega)]; exact j3
  · rw [e 0 (by omega), f.2 6 (by omega), e 167 (by omega), e 172 (by omega)]; exact j4
  · rw [e 115 (by omega), e 173 (by omega), e 113 (by omega), e 114 (by omega), e 174 (by omega)]; exact j5
theorem tries_N (h : ¬ p1 < 1 ∧ ¬ 50000 < p1) : ∃ N : Nat, N ≤ 50000 ∧ p1 = nI N := rng (fun c => h.1 (Int32.lt_trans c (by decide))) h.2 rfl
theorem op_mix (hI : Inv σ) : vt_Mi g 43 D_X11_mix [.ref (g.2.1 0), .int p1] σ (fun r σ1 => vt_Mi g 42 D_X12_mix [.ref (g.2.1 168), .int p1] σ1 (fun r' σ2 => r = r' ∧ Inv σ2)) := by
  obtain ⟨⟨t, nd, ns, nm, nl, lv, hRel⟩, h2⟩ := id hI
  refine mI ok_X11_mix.1 rfl rfl rfl (s_X11_mix_0 g σ _ p1 ⟨fun c => ?_, fun c => ⟨_, rfl, mI ok_X12_mix.1 rfl rfl rfl (s_X12_mix_0 g σ _ p1 ⟨fun z => absurd z c, fun _ => ⟨_, rfl, rfl, hI⟩⟩)⟩⟩)
  obtain ⟨N, hN, rfl⟩ := tries_N c
  obtain ⟨ok, bw, q, hq, hx, hm⟩ := mix_ex (g := g) hRel hN
  refine hx σ (fun _ _ _ => rfl) _ (fun τ f1 t1 => ?_)
  have fin : ∀ (r : Int32), r = (if ok = true then bw else -1000000004) → vt_Mi g 42 D_X12_mix [.ref (g.2.1 168), .int (nI N)] τ (fun r' σ2 => r = r' ∧ Inv σ2) := by
    intro r hr
    refine mI ok_X12_mix.1 rfl rfl rfl (s_X12_mix_0 g τ _ (nI N) ⟨fun _ => hm τ (f1 169 (by omega)) _ (fun υ f2 t2 => ?_), fun z => absurd c z⟩)
    have I2 : Inv υ := (hI.fr (τ := τ) (fun k hk => f1 k (by omega))).fx f2
    cases z : ok with
    | true =>
      rw [z] at hr
      exact ⟨fun _ => ⟨_, rfl, hr.trans (t2 z).1.symm, I2⟩, fun y => absurd rfl y⟩
    | false =>
      rw [z] at hr
      exact ⟨fun y => absurd y (by decide), fun _ => ⟨_, rfl, hr, I2⟩⟩
  cases z : ok with
  | true => exact ⟨fun y => absurd y (by decide), fun _ => ⟨_, rfl, fin _ (by rw [z]; exact (t1 z).1)⟩⟩
  | false => exact ⟨fun _ => ⟨_, rfl, fin _ (by rw [z]; rfl)⟩, fun y => absurd rfl y⟩
theorem op_mixed (hI : Inv σ) : vt_Mi g 43 D_X11_mixed [.ref (g.2.1 0), .int p1, .int p2] σ (fun r σ1 => vt_Mi g 42 D_X12_mixed [.ref (g.2.1 168), .int p1, .int p2] σ1 (fun r' σ2 => r = r' ∧ Inv σ2)) := by
  obtain ⟨⟨t, nd, ns, nm, nl, lv, hRel⟩, h2⟩ := id hI
  refine mI ok_X11_mixed.1 rfl rfl rfl (s_X11_mixed_0 g σ _ p1 p2 ⟨fun c => ⟨fun d => ?_, fun d => ⟨_, rfl, mI ok_X12_mixed.1 rfl rfl rfl (s_X12_mixed_0 g σ _ p1 p2 ⟨fun _ => ⟨fun z => absurd z d, fun _ => ⟨_, rfl, rfl, hI⟩⟩, fun z => absurd c z⟩)⟩⟩, fun c => ⟨_, rfl, mI ok_X12_mixed.1 rfl rfl rfl (s_X12_mixed_0 g σ _ p1 p2 ⟨fun z => absurd z c, fun _ => ⟨_, rfl, rfl, hI⟩⟩)⟩⟩)
  obtain ⟨N, hN, rfl⟩ := tries_N c
  obtain ⟨p, hp, rfl⟩ := rng d.1 d.2 (n := 11) rfl
  obtain ⟨ok, bw, q, hq, hx, hm⟩ := mix_ex (g := g) hRel hN
  refine hx σ (fun _ _ _ => rfl) _ (fun τ f1 t1 => ?_)
  have ix : vp_in (nI p) 12 := inN (by omega) (by omega)
  have fin : ∀ (r : Int32), r = (if ok = true then opN (q p) else -1000000004) → vt_Mi g 42 D_X12_mixed [.ref (g.2.1 168), .int (nI N), .int (nI p)] τ (fun r' σ2 => r = r' ∧ Inv σ2) := by
    intro r hr
    refine mI ok_X12_mixed.1 rfl rfl rfl (s_X12_mixed_0 g τ _ (nI N) (nI p) ⟨fun _ => ⟨fun _ => hm τ (f1 169 (by omega)) _ (fun υ f2 t2 => ?_), fun z => absurd d z⟩, fun z => absurd c z⟩)
    have I2 : Inv υ := (hI.fr (τ := τ) (fun k hk => f1 k (by omega))).fx f2
    cases z : ok with
    | true =>
      rw [z] at hr
      refine ⟨fun _ => ⟨ix, ?_⟩, fun y => absurd rfl y⟩
      have hr : r = opN (q p) := hr
      rw [nI_clamp (by omega), (t2 z).2 p (by omega), hr]
      cases qp : q p with
      | none => exact ⟨fun y => absurd y (by decide), fun _ => ⟨_, rfl, rfl, I2⟩⟩
      | some s => exact ⟨fun _ => ⟨_, rfl, rfl, I2⟩, fun y => absurd (nI_pos' (by have := hq p s qp; omega)) y⟩
    | false =>
      rw [z] at hr
      exact ⟨fun y => absurd y (by decide), fun _ => ⟨_, rfl, hr, I2⟩⟩
  cases z : ok with
  | true =>
    refine ⟨fun y => absurd y (by decide), fun _ => ⟨ix, _, rfl, fin _ ?_⟩⟩
    rw [z, nI_clamp (by omega)]; exact (t1 z).2 p (by omega)
  | false => exact ⟨fun _ => ⟨_, rfl, fin _ (by rw [z]; rfl)⟩, fun y => absurd rfl y⟩
/-- what a check answers: k places more from p on, r are right -/
def ckF (q : Nat → Option Nat) (W : Nat → Int32) (wv : Nat) : Nat → Nat → Nat → Int32
  | 0, _, r => if r = wv then 0 else nI (1 + r)
  | k + 1, p, r => match q p with
    | none => ckF q W wv k (p + 1) r
    | some s => if wv ≤ r then nI (1 + r) else if W r = nI p then (if wv ≤ r + 1 then nI (1 + (r + 1)) else if W (r + 1) = nI s then ckF q W wv k (p + 1) (r + 1 + 1) else nI (1 + (r + 1))) else nI (1 + r)
theorem l_checkX {q : Nat → Option Nat} (hq : okQ q) {wv : Nat} (hwv : wv ≤ 24) (hb : ∀ p, p < 12 → τ 124 p = opN (q p)) (Φ : Int32 → vt_Sg → Prop) :
    ∀ k p r, p + k = 12 → r ≤ wv → Φ (ckF q (τ 167) wv k p r) τ → TT g (vt_R 43) 0 0 D_X11_check none 28 [some (.ref (g.2.1 0)), some (.int (nI wv)), some (.int (nI r)), some (.int (nI p)), none] [] τ (fun v σ' => ∃ r, v = some (Value.int r) ∧ Φ r σ') := by
  intro k
  induction k with
  | zero =>
    intro p r hp hr h
    have : p = 12 := hp
    subst this
    have h : Φ (if r = wv then 0 else nI (1 + r)) τ := h
    refine s_X11_check_28 g τ _ _ _ _ ⟨fun _ => ⟨fun c => ⟨_, rfl, ?_⟩, fun c => ⟨_, rfl, ?_⟩⟩, fun c => absurd (show (12 : Int32) ≤ 12 from by decide) c⟩
    · rw [if_neg (fun z => c (by rw [z])), ← nI_add] at h; exact h
    · rw [if_pos (nI_inj c (by omega) (by omega))] at h; exact h
  | succ k ih =>
    intro p r hp hr h
    refine s_X11_check_28 g τ _ _ _ _ ⟨fun c => absurd c (nI_ge (b := 12) (by omega) (by omega)), fun _ => ⟨inN (by omega) (by omega), ?_⟩⟩
    rw [nI_clamp (by omega), hb p (by omega), nI_1, nI_1, nI_1]
    rw [ckF] at h
    cases qp : q p with
    | none =>
      rw [qp] at h
      exact ⟨fun c => absurd rfl c, fun _ => ih (p + 1) r (by omega) hr h⟩
    | some s =>
      rw [qp] at h
      have hs := hq p s qp
      have h : Φ (if wv ≤ r then nI (1 + r) else if τ 167 r = nI p then (if wv ≤ r + 1 then nI (1 + (r + 1)) else if τ 167 (r + 1) = nI s then ckF q (τ 167) wv k (p + 1) (r + 1 + 1) else nI (1 + (r + 1))) else nI (1 + r)) τ := h
      have o1 : (1 : Int32) + nI r = nI (1 + r) := nI_add 1 r
      have o2 : (1 : Int32) + nI (r + 1) = nI (1 + (r + 1)) := nI_add 1 (r + 1)
      rw [o1, o2]
      refine ⟨fun _ => ⟨fun c => ⟨_, rfl, ?_⟩, fun c => ?_⟩, fun c => absurd c (nI_neNONE (by omega))⟩
      · rw [if_pos ((nI_leI (by omega) (by omega)).mp c)] at h; exact h
      · rw [if_neg (fun z => c (nI_le z (by omega)))] at h
        have hrw : r < wv := Nat.lt_of_not_le (fun z => c (nI_le z (by omega)))
        refine ⟨inN (by omega) (by omega), ?_⟩
        rw [nI_clamp (by omega)]
        refine ⟨fun c2 => ?_, fun c2 => ⟨_, rfl, ?_⟩⟩
        · rw [if_pos c2] at h
          refine ⟨fun c3 => ⟨_, rfl, ?_⟩, fun c3 => ?_⟩
          · rw [if_pos ((nI_leI (by omega) (by omega)).mp c3)] at h; exact h
          · rw [if_neg (fun z => c3 (nI_le z (by omega)))] at h
            have hrw2 : r + 1 < wv := Nat.lt_of_not_le (fun z => c3 (nI_le z (by omega)))
            refine ⟨inN (by omega) (by omega), ?_⟩
            rw [nI_clamp (by omega)]
            refine ⟨fun c4 => ?_, fun c4 => ⟨_, rfl, ?_⟩⟩
            · have c4 : τ 167 (r + 1) = nI s := c4
              rw [if_pos c4] at h
              exact ih (p + 1) (r + 1 + 1) (by omega) (by omega) h
            · have c4 : ¬ τ 167 (r + 1) = nI s := c4
              rw [if_neg c4] at h; exact h
        · rw [if_neg c2] at h; exact h
theorem l_checkM {q : Nat → Option Nat} (hq : okQ q) {W : Nat → Int32} {wv : Nat} (hwv : wv ≤ 24) (hb : ∀ p, p < 12 → τ 180 p = opM (q p)) (hW : ∀ i, i < wv → τ 172 i = W i) (x2 : Int32) (Φ : Int32 → vt_Sg → Prop) :
    ∀ k p r, p + k = 12 → r ≤ wv → Φ (ckF q W wv k p r) τ → TT g (vt_R 42) 0 0 D_X12_check none 29 [some (.ref (g.2.1 168)), some (.int (nI wv)), some (.int x2), some (.int (nI r)), some (.int (nI p)), none] [] τ (fun v σ' => ∃ r, v = some (Value.int r) ∧ Φ r σ') := by
  intro k
  induction k with
  | zero =>
    intro p r hp hr h
    have : p = 12 := hp
    subst this
    have h : Φ (if r = wv then 0 else nI (1 + r)) τ := h
    refine s_X12_check_29 g τ _ _ _ _ _ ⟨fun _ => ⟨fun c => ⟨_, rfl, ?_⟩, fun c => ⟨_, rfl, ?_⟩⟩, fun c => absurd (show (12 : Int32) ≤ 12 from by decide) c⟩
    · have := (nI_leI (by omega) (by omega)).mp c
      rw [if_pos (by omega)] at h; exact h
    · rw [if_neg (fun z => c (by rw [z]; exact nI_le (Nat.le_refl _) (by omega))), ← nI_add] at h; exact h
  | succ k ih =>
    intro p r hp hr h
    refine s_X12_check_29 g τ _ _ _ _ _ ⟨fun c => absurd c (nI_ge (b := 12) (by omega) (by omega)), fun _ => s_X12_check_39 g τ _ _ _ _ _ _ ⟨fun c => absurd c (by decide), fun _ => ⟨inN (by omega) (by omega), ?_⟩⟩⟩
    rw [nI_clamp (by omega), hb p (by omega), nI_1, nI_1]
    rw [ckF] at h
    have o1 : (1 : Int32) + nI r = nI (1 + r) := nI_add 1 r
    rw [o1]
    cases qp : q p with
    | none =>
      rw [qp] at h
      exact ⟨fun _ => ih (p + 1) r (by omega) hr h, fun c => absurd (show opM none < 0 by decide) c⟩
    | some s =>
      rw [qp] at h
      have hs := hq p s qp
      have h : Φ (if wv ≤ r then nI (1 + r) else if W r = nI p then (if wv ≤ r + 1 then nI (1 + (r + 1)) else if W (r + 1) = nI s then ckF q W wv k (p + 1) (r + 1 + 1) else nI (1 + (r + 1))) else nI (1 + r)) τ := h
      refine ⟨fun c => absurd c (nI_pos (by omega)), fun _ => ⟨fun c => ⟨_, rfl, ?_⟩, fun c => ?_⟩⟩
      · have := nI_inj c (by omega) (by omega)
        rw [if_pos (by omega)] at h; exact h
      · have hrw : r < wv := by
          rcases Nat.lt_or_ge r wv with z | z
          · exact z
          · exact absurd (by rw [show r = wv by omega]) c
        rw [if_neg (by omega)] at h
        refine ⟨inN (by omega) (by omega), fun z => absurd rfl z, fun _ => ?_⟩
        rw [nI_clamp (by omega), hW r hrw]
        refine ⟨fun c2 => ?_, fun c2 => ⟨_, rfl, ?_⟩⟩
        · rw [if_pos c2] at h
          refine s_X12_check_39 g τ _ _ _ _ _ _ ⟨fun z => absurd z (by decide), fun _ => ⟨inN (by omega) (by omega), ?_⟩⟩
          have o2 : (1 : Int32) + nI (r + 1) = nI (1 + (r + 1)) := nI_add 1 (r + 1)
          rw [nI_clamp (by omega), hb p (by omega), qp, nI_1, nI_1, o2]
          refine ⟨fun z => absurd z (nI_pos (by omega)), fun _ => ⟨fun z => ⟨_, rfl, ?_⟩, fun z => ?_⟩⟩
          · have := nI_inj z (by omega) (by omega)
            rw [if_pos (by omega)] at h; exact h
          · have hrw2 : r + 1 < wv := by
              rcases Nat.lt_or_ge (r + 1) wv with y | y
              · exact y
              · exact absurd (by rw [show r + 1 = wv by omega]) z
            rw [if_neg (by omega)] at h
            refine ⟨inN (by omega) (by omega), fun _ => ?_, fun z => absurd z (by decide)⟩
            rw [nI_clamp (by omega), hW (r + 1) hrw2]
            refine ⟨fun c4 => ?_, fun c4 => ⟨_, rfl, ?_⟩⟩
            · have c4 : W (r + 1) = nI s := c4
              rw [if_pos c4] at h
              refine s_X12_check_39 g τ _ _ _ _ _ _ ⟨fun _ => ?_, fun z => absurd (show (2 : Int32) ≤ 0 + 1 + 1 from by decide) z⟩
              rw [nI_1]
              exact ih (p + 1) (r + 1 + 1) (by omega) (by omega) h
            · have c4 : ¬ W (r + 1) = nI s := c4
              rw [if_neg c4] at h; exact h
        · rw [if_neg c2] at h; exact h
theorem op_check (hI : Inv σ) : vt_Mi g 43 D_X11_check [.ref (g.2.1 0)] σ (fun r σ1 => vt_Mi g 42 D_X12_check [.ref (g.2.1 168)] σ1 (fun r' σ2 => r = r' ∧ Inv σ2)) := by
  obtain ⟨⟨t, nd, ns, nm, nl, lv, hRel⟩, hi, ht, ⟨wv, w1, w2, w3, w4⟩, hsh⟩ := id hI
  obtain ⟨ok, bw, q, hq, hx, hm⟩ := mix_ex (g := g) hRel (N := 50000) (by omega)
  refine mI ok_X11_check.1 rfl rfl rfl (s_X11_check_0 g σ _ (hx _ (fun k h1 h2 => su_ne (by omega)) _ (fun τ f1 t1 => ?_)))
  have e1 : ∀ k, k ≠ 0 → (k < 116 ∨ 165 < k) → τ k = σ k := fun k a b => (f1 k b).trans (su_ne a)
  have e0 : τ 0 = upd (σ 0) 10 0 := (f1 0 (by omega)).trans su_same
  have fin : ∀ (r : Int32), r = (if ok = true then ckF q (σ 167) wv 12 0 0 else -1000000004) → vt_Mi g 42 D_X12_check [.ref (g.2.1 168)] τ (fun r' σ2 => r = r' ∧ Inv σ2) := by
    intro r hr
    refine mI ok_X12_check.1 rfl rfl rfl (s_X12_check_0 g τ _ (hm _ (by rw [su_ne (by omega)]; exact e1 169 (by omega) (by omega)) _ (fun υ f2 t2 => ?_)))
    have I2 : Inv υ := by
      refine Inv.fr (σ := su τ 168 (υ 168)) ?_ (fun k hk => ?_)
      · have e8 : ∀ j, j < 23 → j ≠ 6 → υ 168 j = σ 168 j := fun j h1 h2 => by rw [f2.2 j (by omega), su_same, upd_ne h2, e1 168 (by omega) (by omega)]
        refine ⟨?_, ?_, ?_, ?_, ?_⟩
        · show RelA (fun k => su τ 168 (υ 168) (1 + k)) (su τ 168 (υ 168) 169)
          rw [su_ne (show 169 ≠ 168 by omega), e1 169 (by omega) (by omega)]
          exact hI.1.cg (fun k hk => by rw [su_ne (by omega)]; exact e1 _ (by omega) (by omega))
        · show I_img (τ 0 2) (υ 168 2) (fun k => su τ 168 (υ 168) (54 + k)) (τ 170)
          rw [e0, upd_ne (by omega), e8 2 (by omega) (by omega), e1 170 (by omega) (by omega)]
          exact hi.cg (fun k hk => by rw [su_ne (by omega)]; exact e1 _ (by omega) (by omega))
        · show I_tape (τ 107 0) (υ 168 4) (τ 110) (τ 171)
          rw [e1 107 (by omega) (by omega), e8 4 (by omega) (by omega), e1 110 (by omega) (by omega), e1 171 (by omega) (by omega)]; exact ht
        · show I_wait (τ 0 10) (υ 168 6) (τ 167) (τ 172)
          rw [e0, upd_same, f2.2 6 (by omega), su_same, upd_same]
          exact ⟨0, by omega, rfl, rfl, fun i hi => absurd hi (by omega)⟩
        · show I_sheet (τ 115) (τ 173) (τ 113) (τ 114) (τ 174)
          rw [e1 115 (by omega) (by omega), e1 173 (by omega) (by omega), e1 113 (by omega) (by omega), e1 114 (by omega) (by omega), e1 174 (by omega) (by omega)]; exact hsh
      · by_cases z : k = 168
        · subst z; rw [su_same]
        · rw [su_ne z, f2.1 k z (by omega) (by omega) (by omega), su_ne z]
    cases z : ok with
    | true =>
      rw [z] at hr
      have hr : r = ckF q (σ 167) wv 12 0 0 := hr
      refine ⟨fun _ => ?_, fun y => absurd rfl y⟩
      rw [e1 168 (by omega) (by omega), w3]
      exact l_checkM (τ := υ) hq w1 (t2 z).2 (fun i hi => by rw [f2.1 172 (by omega) (by omega) (by omega) (by omega), su_ne (by omega), e1 172 (by omega) (by omega)]; exact (w4 i hi).symm) _ _ 12 0 0 rfl (by omega) ⟨hr, I2⟩
    | false =>
      rw [z] at hr
      exact ⟨fun y => absurd y (by decide), fun _ => ⟨_, rfl, hr, I2⟩⟩
  cases z : ok with
  | true =>
    refine ⟨fun _ => ?_, fun y => absurd y (by decide)⟩
    rw [w2]
    refine l_checkX (τ := τ) hq w1 (t1 z).2 _ 12 0 0 rfl (by omega) (fin _ ?_)
    rw [z, e1 167 (by omega) (by omega)]; rfl
  | false => exact ⟨fun y => absurd rfl y, fun _ => ⟨_, rfl, fin _ (by rw [z]; rfl)⟩⟩
end OPS16
