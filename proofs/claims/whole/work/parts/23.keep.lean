/-! OPERATIONS: keep, back -/
/-- place j of an arcade's cell i is looked at -/
def lk (i j : Nat) : Prop := (i = 0 ∧ (j = 8 ∨ j = 9)) ∨ (i = 1 ∧ j < 12) ∨ (i = 2 ∧ j < 2) ∨ (i = 3 ∧ j = 2) ∨ ((i = 4 ∨ i = 5) ∧ j < 4) ∨ (i = 6 ∧ j = 7) ∨ (7 ≤ i ∧ i < 14 ∧ j < 12) ∨ (i = 14 ∧ j = 3) ∨ (15 ≤ i ∧ i < 18 ∧ j < 200) ∨ (i = 18 ∧ j = 5) ∨ (19 ≤ i ∧ i < 24 ∧ j < 100) ∨ (i = 25 ∧ j < 12) ∨ (27 ≤ i ∧ i < 39 ∧ j < 132) ∨ (40 ≤ i ∧ i < 52 ∧ j < 3) ∨ (i = 52 ∧ j < 12)
theorem LC.cgR {st en cd st' en' cd' : Nat → Int32} (h : LC st en cd) (h1 : ∀ j, j < 132 → st' j = st j) (h2 : ∀ j, j < 3 → en' j = en j) (h3 : ∀ j, j < 135 → cd' j = cd j) : LC st' en' cd' := by
  obtain ⟨c0, c1, c2, a0, a1, a2, a3, a4, a5, a6⟩ := h
  exact ⟨c0, c1, c2, a0, (h2 0 (by omega)).trans a1, (h2 1 (by omega)).trans a2, (h2 2 (by omega)).trans a3, fun j hj => (h1 j (by omega)).trans (a4 j hj), fun j hj => (h3 j (by omega)).trans (a5 j hj), a6⟩
theorem RelA.cgR {x x' : Nat → Nat → Int32} {n n' : Nat → Int32} (h : RelA x n) (hx : ∀ i j, lk i j → x' i j = x i j) (hn : ∀ j, j < 2220 → n' j = n j) : RelA x' n' := by
  obtain ⟨t, nd, ns, nm, nl, lv, hN, hF, hR, hD, hS, hM, hL, hE, hV⟩ := h
  obtain ⟨⟨bt, bd, bs, bm, bl, bv⟩, ⟨xt, xv, xd, xs, xm, xl⟩, ⟨yt, yd, ys, ym, yl, yv⟩⟩ := hN
  refine ⟨t, nd, ns, nm, nl, lv, ⟨⟨bt, bd, bs, bm, bl, bv⟩, ⟨(hx 0 9 (by unfold lk; omega)).trans xt, (hx 0 8 (by unfold lk; omega)).trans xv, (hx 3 2 (by unfold lk; omega)).trans xd, (hx 6 7 (by unfold lk; omega)).trans xs, (hx 14 3 (by unfold lk; omega)).trans xm, (hx 18 5 (by unfold lk; omega)).trans xl⟩, ⟨(hn 0 (by omega)).trans yt, (hn 1 (by omega)).trans yd, (hn 2 (by omega)).trans ys, (hn 3 (by omega)).trans ym, (hn 4 (by omega)).trans yl, (hn 7 (by omega)).trans yv⟩⟩, ?_, ?_, ?_, ?_, ?_, ?_, ?_, ?_⟩
  · intro p hp
    rw [hx 1 p (by unfold lk; omega), hn _ (by omega)]
    exact hF p hp
  · unfold A_rules
    rw [hx 2 0 (by unfold lk; omega), hx 2 1 (by unfold lk; omega), hn _ (by omega), hn _ (by omega)]
    exact hR
  · intro d hd
    rw [hx 4 d (by unfold lk; omega), hx 5 d (by unfold lk; omega), hn _ (by omega), hn _ (by omega)]
    exact hD d hd
  · intro s hs
    rw [hx 7 s (by unfold lk; omega), hx 8 s (by unfold lk; omega), hx 9 s (by unfold lk; omega), hx 10 s (by unfold lk; omega), hx 11 s (by unfold lk; omega), hx 12 s (by unfold lk; omega), hx 13 s (by unfold lk; omega), hn _ (by omega), hn _ (by omega), hn _ (by omega), hn _ (by omega), hn _ (by omega), hn _ (by omega), hn _ (by omega)]
    exact hS s hs
  · obtain ⟨ms, mt, mp, h1, h2, h3⟩ := hM
    refine ⟨ms, mt, mp, fun k hk => ?_, h2, h3⟩
    rw [hx 15 k (by unfold lk; omega), hx 16 k (by unfold lk; omega), hx 17 k (by unfold lk; omega), hn _ (by omega)]
    exact h1 k hk
  · obtain ⟨ls, lm, lt, lw, h1⟩ := hL
    refine ⟨ls, lm, lt, lw, fun l hl => ?_⟩
    rw [hx 19 l (by unfold lk; omega), hx 20 l (by unfold lk; omega), hx 21 l (by unfold lk; omega), hx 22 l (by unfold lk; omega), hx 23 l (by unfold lk; omega), hn _ (by omega), hn _ (by omega)]
    exact h1 l hl
  · refine ⟨fun s h1 h2 => (hx 25 s (by unfold lk; omega)).trans (hE.1 s h1 h2), fun s hs => ?_⟩
    rw [hx 25 s (by unfold lk; omega), hn _ (by omega)]
    rcases hE.2 s hs with h1 | ⟨h1, h2, h3⟩
    · exact Or.inl h1
    · exact Or.inr ⟨h1, h2, h3.cgR (fun j hj => hx _ j (by unfold lk; omega)) (fun j hj => hx _ j (by unfold lk; omega)) (fun j hj => hn _ (by omega))⟩
  · intro i hi
    rw [hx 52 i (by unfold lk; omega), hn _ (by omega)]
    exact hV i hi
section OPS7
variable {g : vt_GT} {σ : vt_Sg}
theorem c_X3K (Φ : vt_Sg → Prop) (h : ∀ σ' : vt_Sg, (∀ k, (k < 57 ∨ 60 ≤ k) → σ' k = σ k) → (∀ i j, 3 ≤ i → i < 6 → lk i j → σ' (54 + i) j = σ (1 + i) j) → Φ σ') : vt_Mv g 1 D_X3_become [.ref (g.2.1 57), .ref (g.2.1 4)] σ Φ := by
  refine mV ok_X3_become.1 rfl rfl rfl (s_X3_becomeK_0 g σ _ ⟨rfl, h _ (fun k hk => by simp (disch := omega) only [su_ne]) (fun i j h1 h2 hl => ?_)⟩)
  have hi : i = 3 ∨ i = 4 ∨ i = 5 := by omega
  rcases hi with rfl | rfl | rfl
  · have hj : j = 2 := by unfold lk at hl; omega
    subst hj; rfl
  · have hj : j < 4 := by unfold lk at hl; omega
    exact sb_cpy0 (f := σ 5) (g := σ 58) hj
  · have hj : j < 4 := by unfold lk at hl; omega
    exact sb_cpy0 (f := σ 6) (g := σ 59) hj
theorem c_X10K (Φ : vt_Sg → Prop) (h : ∀ σ' : vt_Sg, (∀ k, (k < 60 ∨ 68 ≤ k) → σ' k = σ k) → (∀ i j, 6 ≤ i → i < 14 → lk i j → σ' (54 + i) j = σ (1 + i) j) → Φ σ') : vt_Mv g 1 D_X10_become [.ref (g.2.1 60), .ref (g.2.1 7)] σ Φ := by
  refine mV ok_X10_become.1 rfl rfl rfl (s_X10_becomeK_0 g σ _ ⟨rfl, h _ (fun k hk => by simp (disch := omega) only [su_ne]) (fun i j h1 h2 hl => ?_)⟩)
  have hi : i = 6 ∨ i = 7 ∨ i = 8 ∨ i = 9 ∨ i = 10 ∨ i = 11 ∨ i = 12 ∨ i = 13 := by omega
  rcases hi with rfl | rfl | rfl | rfl | rfl | rfl | rfl | rfl
  · have hj : j = 7 := by unfold lk at hl; omega
    subst hj; rfl
  · have hj : j < 12 := by unfold lk at hl; omega
    exact sb_cpy0 (f := σ 8) (g := σ 61) hj
  · have hj : j < 12 := by unfold lk at hl; omega
    exact sb_cpy0 (f := σ 9) (g := σ 62) hj
  · have hj : j < 12 := by unfold lk at hl; omega
    exact sb_cpy0 (f := σ 10) (g := σ 63) hj
  · have hj : j < 12 := by unfold lk at hl; omega
    exact sb_cpy0 (f := σ 11) (g := σ 64) hj
  · have hj : j < 12 := by unfold lk at hl; omega
    exact sb_cpy0 (f := σ 12) (g := σ 65) hj
  · have hj : j < 12 := by unfold lk at hl; omega
    exact sb_cpy0 (f := σ 13) (g := σ 66) hj
  · have hj : j < 12 := by unfold lk at hl; omega
    exact sb_cpy0 (f := σ 14) (g := σ 67) hj
theorem c_X7K (Φ : vt_Sg → Prop) (h : ∀ σ' : vt_Sg, (∀ k, (k < 68 ∨ 72 ≤ k) → σ' k = σ k) → (∀ i j, 14 ≤ i → i < 18 → lk i j → σ' (54 + i) j = σ (1 + i) j) → Φ σ') : vt_Mv g 1 D_X7_become [.ref (g.2.1 68), .ref (g.2.1 15)] σ Φ := by
  refine mV ok_X7_become.1 rfl rfl rfl (s_X7_becomeK_0 g σ _ ⟨rfl, h _ (fun k hk => by simp (disch := omega) only [su_ne]) (fun i j h1 h2 hl => ?_)⟩)
  have hi : i = 14 ∨ i = 15 ∨ i = 16 ∨ i = 17 := by omega
  rcases hi with rfl | rfl | rfl | rfl
  · have hj : j = 3 := by unfold lk at hl; omega
    subst hj; rfl
  · have hj : j < 200 := by unfold lk at hl; omega
    exact sb_cpy0 (f := σ 16) (g := σ 69) hj
  · have hj : j < 200 := by unfold lk at hl; omega
    exact sb_cpy0 (f := σ 17) (g := σ 70) hj
  · have hj : j < 200 := by unfold lk at hl; omega
    exact sb_cpy0 (f := σ 18) (g := σ 71) hj
theorem c_X5K (Φ : vt_Sg → Prop) (h : ∀ σ' : vt_Sg, (∀ k, (k < 72 ∨ 78 ≤ k) → σ' k = σ k) → (∀ i j, 18 ≤ i → i < 24 → lk i j → σ' (54 + i) j = σ (1 + i) j) → Φ σ') : vt_Mv g 1 D_X5_become [.ref (g.2.1 72), .ref (g.2.1 19)] σ Φ := by
  refine mV ok_X5_become.1 rfl rfl rfl (s_X5_becomeK_0 g σ _ ⟨rfl, h _ (fun k hk => by simp (disch := omega) only [su_ne]) (fun i j h1 h2 hl => ?_)⟩)
  have hi : i = 18 ∨ i = 19 ∨ i = 20 ∨ i = 21 ∨ i = 22 ∨ i = 23 := by omega
  rcases hi with rfl | rfl | rfl | rfl | rfl | rfl
  · have hj : j = 5 := by unfold lk at hl; omega
    subst hj; rfl
  · have hj : j < 100 := by unfold lk at hl; omega
    exact sb_cpy0 (f := σ 20) (g := σ 73) hj
  · have hj : j < 100 := by unfold lk at hl; omega
    exact sb_cpy0 (f := σ 21) (g := σ 74) hj
  · have hj : j < 100 := by unfold lk at hl; omega
    exact sb_cpy0 (f := σ 22) (g := σ 75) hj
  · have hj : j < 100 := by unfold lk at hl; omega
    exact sb_cpy0 (f := σ 23) (g := σ 76) hj
  · have hj : j < 100 := by unfold lk at hl; omega
    exact sb_cpy0 (f := σ 24) (g := σ 77) hj
theorem c_X4K (hz : ∀ s, s < 12 → σ 26 s = 0 ∨ σ 26 s = 1) (Φ : vt_Sg → Prop) (h : ∀ σ' : vt_Sg, (∀ k, (k < 78 ∨ 106 ≤ k) → σ' k = σ k) → (∀ i j, 24 ≤ i → i < 52 → lk i j → σ' (54 + i) j = σ (1 + i) j) → Φ σ') : vt_Mv g 1 D_X4_become [.ref (g.2.1 78), .ref (g.2.1 25)] σ Φ := by
  refine mV ok_X4_become.1 rfl rfl rfl (s_X4_becomeK_0 g σ _ ?_)
  refine lpS 12 (fun i τ => TT g (vt_R 1) 0 0 D_X4_become none 2 [some (.ref (g.2.1 78)), some (.ref (g.2.1 25)), some (.int (nI i))] [] τ _) (fun i τ => (∀ k, (k < 78 ∨ 106 ≤ k) → τ k = σ k) ∧ ∀ s, s < i → τ 79 s = σ 26 s ∧ (∀ j, j < 132 → τ (81 + s) j = σ (28 + s) j) ∧ (∀ j, j < 3 → τ (94 + s) j = σ (41 + s) j)) ?_ ?_ 0 σ (by omega) ⟨fun _ _ => rfl, fun s hs => absurd hs (by omega)⟩
  · rintro τ ⟨h1, h2⟩
    refine s_X4_becomeK_2 g τ _ _ ⟨fun _ => ⟨rfl, h τ h1 (fun i j a b hl => ?_)⟩, fun c => absurd (by decide) c⟩
    unfold lk at hl
    have hi : i = 25 ∨ (27 ≤ i ∧ i < 39) ∨ (40 ≤ i ∧ i < 52) := by omega
    rcases hi with rfl | hi | hi
    · exact (h2 j (by omega)).1
    · have e1 : 54 + i = 81 + (i - 27) := by omega
      have e2 : 1 + i = 28 + (i - 27) := by omega
      rw [e1, e2]
      exact (h2 (i - 27) (by omega)).2.1 j (by omega)
    · have e1 : 54 + i = 94 + (i - 40) := by omega
      have e2 : 1 + i = 41 + (i - 40) := by omega
      rw [e1, e2]
      exact (h2 (i - 40) (by omega)).2.2 j (by omega)
  · rintro i τ hi ⟨h1, h2⟩ ih
    refine s_X4_becomeK_2 g τ _ _ ⟨fun c => absurd (show nI 12 ≤ nI i from c) (nI_ge hi (by omega)), fun _ => ⟨inN hi (by omega), ?_⟩⟩
    have e0 : τ 26 i = σ 26 i := by rw [h1 26 (by omega)]
    have e1 : vp_nar .boolean (τ 26 i) = σ 26 i := by
      rw [e0]
      rcases hz i hi with q | q <;> rw [q] <;> rfl
    rw [nI_clamp (by omega), e1, nI_1]
    refine ih _ ⟨fun k hk => ?_, fun s hs => ?_⟩
    · simp (disch := omega) only [su_ne]
      exact h1 k hk
    · simp (disch := omega) only [su_ne]
      by_cases e : s = i
      · subst e
        simp (disch := omega) only [su_ne, su_same]
        refine ⟨upd_same, fun j hj => ?_, fun j hj => ?_⟩
        · rw [sb_cpy0 hj, h1 _ (by omega)]
        · rw [sb_cpy0 hj, h1 _ (by omega)]
      · obtain ⟨a1, a2, a3⟩ := h2 s (by omega)
        simp (disch := omega) only [su_ne, su_same]
        exact ⟨(upd_ne e).trans a1, a2, a3⟩
theorem c_X0K (hz : ∀ s, s < 12 → σ 26 s = 0 ∨ σ 26 s = 1) (Φ : vt_Sg → Prop) (h : ∀ σ' : vt_Sg, (∀ k, (k < 54 ∨ 107 ≤ k) → σ' k = σ k) → (∀ i j, lk i j → σ' (54 + i) j = σ (1 + i) j) → Φ σ') : vt_Mv g 2 D_X0_become [.ref (g.2.1 54), .ref (g.2.1 1)] σ Φ := by
  refine mV ok_X0_become.1 rfl rfl rfl (s_X0_becomeK_0 g σ _ ?_)
  refine c_X3K _ (fun σ1 f1 g1 => c_X10K _ (fun σ2 f2 g2 => c_X7K _ (fun σ3 f3 g3 => c_X5K _ (fun σ4 f4 g4 => c_X4K ?_ _ (fun σ5 f5 g5 => ⟨rfl, h _ ?_ ?_⟩)))))
  · intro s hs
    rw [f4 26 (by omega), f3 26 (by omega), f2 26 (by omega), f1 26 (by omega)]
    exact hz s hs
  · intro k hk
    simp (disch := omega) only [su_ne]
    rw [f5 k (by omega), f4 k (by omega), f3 k (by omega), f2 k (by omega), f1 k (by omega)]
    simp (disch := omega) only [su_ne]
  · have src : ∀ i, i < 53 → σ5 (1 + i) = σ (1 + i) ∧ σ4 (1 + i) = σ (1 + i) ∧ σ3 (1 + i) = σ (1 + i) ∧ σ2 (1 + i) = σ (1 + i) ∧ σ1 (1 + i) = σ (1 + i) := by
      intro i hi
      have q1 : σ1 (1 + i) = σ (1 + i) := by rw [f1 _ (by omega)]; simp (disch := omega) only [su_ne]
      have q2 : σ2 (1 + i) = σ (1 + i) := (f2 _ (by omega)).trans q1
      have q3 : σ3 (1 + i) = σ (1 + i) := (f3 _ (by omega)).trans q2
      have q4 : σ4 (1 + i) = σ (1 + i) := (f4 _ (by omega)).trans q3
      exact ⟨(f5 _ (by omega)).trans q4, q4, q3, q2, q1⟩
    have s0 := (src 0 (by omega)).1
    have s52 := (src 52 (by omega)).1
    have s0 : σ5 1 = σ 1 := s0
    have s52 : σ5 53 = σ 53 := s52
    intro i j hl
    have hi : i = 0 ∨ i = 1 ∨ i = 2 ∨ (3 ≤ i ∧ i < 6) ∨ (6 ≤ i ∧ i < 14) ∨ (14 ≤ i ∧ i < 18) ∨ (18 ≤ i ∧ i < 24) ∨ (24 ≤ i ∧ i < 52) ∨ i = 52 := by unfold lk at hl; omega
    rcases hi with rfl | rfl | rfl | hi | hi | hi | hi | hi | rfl
    · have hj : j = 8 ∨ j = 9 := by unfold lk at hl; omega
      show upd (upd (σ5 54) 8 (σ5 1 8)) 9 (σ5 1 9) j = σ 1 j
      rcases hj with rfl | rfl
      · rw [upd_ne (by omega), upd_same, s0]
      · rw [upd_same, s0]
    · show σ5 55 j = σ 2 j
      rw [f5 55 (by omega), f4 55 (by omega), f3 55 (by omega), f2 55 (by omega), f1 55 (by omega)]
      exact sb_cpy0 (f := σ 2) (g := σ 55) (by unfold lk at hl; omega)
    · show σ5 56 j = σ 3 j
      rw [f5 56 (by omega), f4 56 (by omega), f3 56 (by omega), f2 56 (by omega), f1 56 (by omega)]
      exact sb_cpy0 (f := σ 3) (g := σ 56) (by unfold lk at hl; omega)
    · simp (disch := omega) only [su_ne]
      rw [f5 _ (by omega), f4 _ (by omega), f3 _ (by omega), f2 _ (by omega), g1 i j hi.1 hi.2 hl]
      simp (disch := omega) only [su_ne]
    · simp (disch := omega) only [su_ne]
      rw [f5 _ (by omega), f4 _ (by omega), f3 _ (by omega), g2 i j hi.1 hi.2 hl, (src i (by omega)).2.2.2.2]
    · simp (disch := omega) only [su_ne]
      rw [f5 _ (by omega), f4 _ (by omega), g3 i j hi.1 hi.2 hl, (src i (by omega)).2.2.2.1]
    · simp (disch := omega) only [su_ne]
      rw [f5 _ (by omega), g4 i j hi.1 hi.2 hl, (src i (by omega)).2.2.1]
    · simp (disch := omega) only [su_ne]
      rw [g5 i j hi.1 hi.2 hl, (src i (by omega)).2.1]
    · show va_cpy (σ5 53) (σ5 106) 0 0 12 j = σ 53 j
      rw [s52]
      exact sb_cpy0 (by unfold lk at hl; omega)
theorem c_X3B (Φ : vt_Sg → Prop) (h : ∀ σ' : vt_Sg, (∀ k, (k < 4 ∨ 7 ≤ k) → σ' k = σ k) → (∀ i j, 3 ≤ i → i < 6 → lk i j → σ' (1 + i) j = σ (54 + i) j) → Φ σ') : vt_Mv g 1 D_X3_become [.ref (g.2.1 4), .ref (g.2.1 57)] σ Φ := by
  refine mV ok_X3_become.1 rfl rfl rfl (s_X3_becomeB_0 g σ _ ⟨rfl, h _ (fun k hk => by simp (disch := omega) only [su_ne]) (fun i j h1 h2 hl => ?_)⟩)
  have hi : i = 3 ∨ i = 4 ∨ i = 5 := by omega
  rcases hi with rfl | rfl | rfl
  · have hj : j = 2 := by unfold lk at hl; omega
    subst hj; rfl
  · have hj : j < 4 := by unfold lk at hl; omega
    exact sb_cpy0 (f := σ 58) (g := σ 5) hj
  · have hj : j < 4 := by unfold lk at hl; omega
    exact sb_cpy0 (f := σ 59) (g := σ 6) hj
theorem c_X10B (Φ : vt_Sg → Prop) (h : ∀ σ' : vt_Sg, (∀ k, (k < 7 ∨ 15 ≤ k) → σ' k = σ k) → (∀ i j, 6 ≤ i → i < 14 → lk i j → σ' (1 + i) j = σ (54 + i) j) → Φ σ') : vt_Mv g 1 D_X10_become [.ref (g.2.1 7), .ref (g.2.1 60)] σ Φ := by
  refine mV ok_X10_become.1 rfl rfl rfl (s_X10_becomeB_0 g σ _ ⟨rfl, h _ (fun k hk => by simp (disch := omega) only [su_ne]) (fun i j h1 h2 hl => ?_)⟩)
  have hi : i = 6 ∨ i = 7 ∨ i = 8 ∨ i = 9 ∨ i = 10 ∨ i = 11 ∨ i = 12 ∨ i = 13 := by omega
  rcases hi with rfl | rfl | rfl | rfl | rfl | rfl | rfl | rfl
  · have hj : j = 7 := by unfold lk at hl; omega
    subst hj; rfl
  · have hj : j < 12 := by unfold lk at hl; omega
    exact sb_cpy0 (f := σ 61) (g := σ 8) hj
  · have hj : j < 12 := by unfold lk at hl; omega
    exact sb_cpy0 (f := σ 62) (g := σ 9) hj
  · have hj : j < 12 := by unfold lk at hl; omega
    exact sb_cpy0 (f := σ 63) (g := σ 10) hj
  · have hj : j < 12 := by unfold lk at hl; omega
    exact sb_cpy0 (f := σ 64) (g := σ 11) hj
  · have hj : j < 12 := by unfold lk at hl; omega
    exact sb_cpy0 (f := σ 65) (g := σ 12) hj
  · have hj : j < 12 := by unfold lk at hl; omega
    exact sb_cpy0 (f := σ 66) (g := σ 13) hj
  · have hj : j < 12 := by unfold lk at hl; omega
    exact sb_cpy0 (f := σ 67) (g := σ 14) hj
theorem c_X7B (Φ : vt_Sg → Prop) (h : ∀ σ' : vt_Sg, (∀ k, (k < 15 ∨ 19 ≤ k) → σ' k = σ k) → (∀ i j, 14 ≤ i → i < 18 → lk i j → σ' (1 + i) j = σ (54 + i) j) → Φ σ') : vt_Mv g 1 D_X7_become [.ref (g.2.1 15), .ref (g.2.1 68)] σ Φ := by
  refine mV ok_X7_become.1 rfl rfl rfl (s_X7_becomeB_0 g σ _ ⟨rfl, h _ (fun k hk => by simp (disch := omega) only [su_ne]) (fun i j h1 h2 hl => ?_)⟩)
  have hi : i = 14 ∨ i = 15 ∨ i = 16 ∨ i = 17 := by omega
  rcases hi with rfl | rfl | rfl | rfl
  · have hj : j = 3 := by unfold lk at hl; omega
    subst hj; rfl
  · have hj : j < 200 := by unfold lk at hl; omega
    exact sb_cpy0 (f := σ 69) (g := σ 16) hj
  · have hj : j < 200 := by unfold lk at hl; omega
    exact sb_cpy0 (f := σ 70) (g := σ 17) hj
  · have hj : j < 200 := by unfold lk at hl; omega
    exact sb_cpy0 (f := σ 71) (g := σ 18) hj
theorem c_X5B (Φ : vt_Sg → Prop) (h : ∀ σ' : vt_Sg, (∀ k, (k < 19 ∨ 25 ≤ k) → σ' k = σ k) → (∀ i j, 18 ≤ i → i < 24 → lk i j → σ' (1 + i) j = σ (54 + i) j) → Φ σ') : vt_Mv g 1 D_X5_become [.ref (g.2.1 19), .ref (g.2.1 72)] σ Φ := by
  refine mV ok_X5_become.1 rfl rfl rfl (s_X5_becomeB_0 g σ _ ⟨rfl, h _ (fun k hk => by simp (disch := omega) only [su_ne]) (fun i j h1 h2 hl => ?_)⟩)
  have hi : i = 18 ∨ i = 19 ∨ i = 20 ∨ i = 21 ∨ i = 22 ∨ i = 23 := by omega
  rcases hi with rfl | rfl | rfl | rfl | rfl | rfl
  · have hj : j = 5 := by unfold lk at hl; omega
    subst hj; rfl
  · have hj : j < 100 := by unfold lk at hl; omega
    exact sb_cpy0 (f := σ 73) (g := σ 20) hj
  · have hj : j < 100 := by unfold lk at hl; omega
    exact sb_cpy0 (f := σ 74) (g := σ 21) hj
  · have hj : j < 100 := by unfold lk at hl; omega
    exact sb_cpy0 (f := σ 75) (g := σ 22) hj
  · have hj : j < 100 := by unfold lk at hl; omega
    exact sb_cpy0 (f := σ 76) (g := σ 23) hj
  · have hj : j < 100 := by unfold lk at hl; omega
    exact sb_cpy0 (f := σ 77) (g := σ 24) hj
theorem c_X4B (hz : ∀ s, s < 12 → σ 79 s = 0 ∨ σ 79 s = 1) (Φ : vt_Sg → Prop) (h : ∀ σ' : vt_Sg, (∀ k, (k < 25 ∨ 53 ≤ k) → σ' k = σ k) → (∀ i j, 24 ≤ i → i < 52 → lk i j → σ' (1 + i) j = σ (54 + i) j) → Φ σ') : vt_Mv g 1 D_X4_become [.ref (g.2.1 25), .ref (g.2.1 78)] σ Φ := by
  refine mV ok_X4_become.1 rfl rfl rfl (s_X4_becomeB_0 g σ _ ?_)
  refine lpS 12 (fun i τ => TT g (vt_R 1) 0 0 D_X4_become none 2 [some (.ref (g.2.1 25)), some (.ref (g.2.1 78)), some (.int (nI i))] [] τ _) (fun i τ => (∀ k, (k < 25 ∨ 53 ≤ k) → τ k = σ k) ∧ ∀ s, s < i → τ 26 s = σ 79 s ∧ (∀ j, j < 132 → τ (28 + s) j = σ (81 + s) j) ∧ (∀ j, j < 3 → τ (41 + s) j = σ (94 + s) j)) ?_ ?_ 0 σ (by omega) ⟨fun _ _ => rfl, fun s hs => absurd hs (by omega)⟩
  · rintro τ ⟨h1, h2⟩
    refine s_X4_becomeB_2 g τ _ _ ⟨fun _ => ⟨rfl, h τ h1 (fun i j a b hl => ?_)⟩, fun c => absurd (by decide) c⟩
    unfold lk at hl
    have hi : i = 25 ∨ (27 ≤ i ∧ i < 39) ∨ (40 ≤ i ∧ i < 52) := by omega
    rcases hi with rfl | hi | hi
    · exact (h2 j (by omega)).1
    · have e1 : 1 + i = 28 + (i - 27) := by omega
      have e2 : 54 + i = 81 + (i - 27) := by omega
      rw [e1, e2]
      exact (h2 (i - 27) (by omega)).2.1 j (by omega)
    · have e1 : 1 + i = 41 + (i - 40) := by omega
      have e2 : 54 + i = 94 + (i - 40) := by omega
      rw [e1, e2]
      exact (h2 (i - 40) (by omega)).2.2 j (by omega)
  · rintro i τ hi ⟨h1, h2⟩ ih
    refine s_X4_becomeB_2 g τ _ _ ⟨fun c => absurd (show nI 12 ≤ nI i from c) (nI_ge hi (by omega)), fun _ => ⟨inN hi (by omega), ?_⟩⟩
    have e0 : τ 79 i = σ 79 i := by rw [h1 79 (by omega)]
    have e1 : vp_nar .boolean (τ 79 i) = σ 79 i := by
      rw [e0]
      rcases hz i hi with q | q <;> rw [q] <;> rfl
    rw [nI_clamp (by omega), e1, nI_1]
    refine ih _ ⟨fun k hk => ?_, fun s hs => ?_⟩
    · simp (disch := omega) only [su_ne]
      exact h1 k hk
    · simp (disch := omega) only [su_ne]
      by_cases e : s = i
      · subst e
        simp (disch := omega) only [su_ne, su_same]
        refine ⟨upd_same, fun j hj => ?_, fun j hj => ?_⟩
        · rw [sb_cpy0 hj, h1 _ (by omega)]
        · rw [sb_cpy0 hj, h1 _ (by omega)]
      · obtain ⟨a1, a2, a3⟩ := h2 s (by omega)
        simp (disch := omega) only [su_ne, su_same]
        exact ⟨(upd_ne e).trans a1, a2, a3⟩
theorem c_X0B (hz : ∀ s, s < 12 → σ 79 s = 0 ∨ σ 79 s = 1) (Φ : vt_Sg → Prop) (h : ∀ σ' : vt_Sg, (∀ k, (k < 1 ∨ 54 ≤ k) → σ' k = σ k) → (∀ i j, lk i j → σ' (1 + i) j = σ (54 + i) j) → Φ σ') : vt_Mv g 2 D_X0_become [.ref (g.2.1 1), .ref (g.2.1 54)] σ Φ := by
  refine mV ok_X0_become.1 rfl rfl rfl (s_X0_becomeB_0 g σ _ ?_)
  refine c_X3B _ (fun σ1 f1 g1 => c_X10B _ (fun σ2 f2 g2 => c_X7B _ (fun σ3 f3 g3 => c_X5B _ (fun σ4 f4 g4 => c_X4B ?_ _ (fun σ5 f5 g5 => ⟨rfl, h _ ?_ ?_⟩)))))
  · intro s hs
    rw [f4 79 (by omega), f3 79 (by omega), f2 79 (by omega), f1 79 (by omega)]
    exact hz s hs
  · intro k hk
    simp (disch := omega) only [su_ne]
    rw [f5 k (by omega), f4 k (by omega), f3 k (by omega), f2 k (by omega), f1 k (by omega)]
    simp (disch := omega) only [su_ne]
  · have src : ∀ i, i < 53 → σ5 (54 + i) = σ (54 + i) ∧ σ4 (54 + i) = σ (54 + i) ∧ σ3 (54 + i) = σ (54 + i) ∧ σ2 (54 + i) = σ (54 + i) ∧ σ1 (54 + i) = σ (54 + i) := by
      intro i hi
      have q1 : σ1 (54 + i) = σ (54 + i) := by rw [f1 _ (by omega)]; simp (disch := omega) only [su_ne]
      have q2 : σ2 (54 + i) = σ (54 + i) := (f2 _ (by omega)).trans q1
      have q3 : σ3 (54 + i) = σ (54 + i) := (f3 _ (by omega)).trans q2
      have q4 : σ4 (54 + i) = σ (54 + i) := (f4 _ (by omega)).trans q3
      exact ⟨(f5 _ (by omega)).trans q4, q4, q3, q2, q1⟩
    have s0 := (src 0 (by omega)).1
    have s52 := (src 52 (by omega)).1
    have s0 : σ5 54 = σ 54 := s0
    have s52 : σ5 106 = σ 106 := s52
    intro i j hl
    have hi : i = 0 ∨ i = 1 ∨ i = 2 ∨ (3 ≤ i ∧ i < 6) ∨ (6 ≤ i ∧ i < 14) ∨ (14 ≤ i ∧ i < 18) ∨ (18 ≤ i ∧ i < 24) ∨ (24 ≤ i ∧ i < 52) ∨ i = 52 := by unfold lk at hl; omega
    rcases hi with rfl | rfl | rfl | hi | hi | hi | hi | hi | rfl
    · have hj : j = 8 ∨ j = 9 := by unfold lk at hl; omega
      show upd (upd (σ5 1) 8 (σ5 54 8)) 9 (σ5 54 9) j = σ 54 j
      rcases hj with rfl | rfl
      · rw [upd_ne (by omega), upd_same, s0]
      · rw [upd_same, s0]
    · show σ5 2 j = σ 55 j
      rw [f5 2 (by omega), f4 2 (by omega), f3 2 (by omega), f2 2 (by omega), f1 2 (by omega)]
      exact sb_cpy0 (f := σ 55) (g := σ 2) (by unfold lk at hl; omega)
    · show σ5 3 j = σ 56 j
      rw [f5 3 (by omega), f4 3 (by omega), f3 3 (by omega), f2 3 (by omega), f1 3 (by omega)]
      exact sb_cpy0 (f := σ 56) (g := σ 3) (by unfold lk at hl; omega)
    · simp (disch := omega) only [su_ne]
      rw [f5 _ (by omega), f4 _ (by omega), f3 _ (by omega), f2 _ (by omega), g1 i j hi.1 hi.2 hl]
      simp (disch := omega) only [su_ne]
    · simp (disch := omega) only [su_ne]
      rw [f5 _ (by omega), f4 _ (by omega), f3 _ (by omega), g2 i j hi.1 hi.2 hl, (src i (by omega)).2.2.2.2]
    · simp (disch := omega) only [su_ne]
      rw [f5 _ (by omega), f4 _ (by omega), g3 i j hi.1 hi.2 hl, (src i (by omega)).2.2.2.1]
    · simp (disch := omega) only [su_ne]
      rw [f5 _ (by omega), g4 i j hi.1 hi.2 hl, (src i (by omega)).2.2.1]
    · simp (disch := omega) only [su_ne]
      rw [g5 i j hi.1 hi.2 hl, (src i (by omega)).2.1]
    · show va_cpy (σ5 106) (σ5 53) 0 0 12 j = σ 106 j
      rw [s52]
      exact sb_cpy0 (by unfold lk at hl; omega)
theorem l_mkeep (P : Option Value → vt_Sg → Prop) (h : P (some (.int (σ 169 0))) (su (su σ 170 (va_cpy (σ 169) (σ 170) 0 0 2220)) 168 (upd (σ 168) 2 1))) : TT g (vt_R 0) 0 0 D_X12_keep none 2 [some (.ref (g.2.1 168)), some (.int 0)] [] σ P := by
  have key := lpD 2220 (fun i => TT g (vt_R 0) 0 0 D_X12_keep none 2 [some (.ref (g.2.1 168)), some (.int (nI i))] [] (su σ 170 (va_cpy (σ 169) (σ 170) 0 0 i)) P) ?_ ?_
  · rw [cpy_0, su_self] at key
    exact key
  · exact s_X12_keep_2 g _ P _ ⟨fun _ => h, fun c => absurd (by decide) c⟩
  · intro i hi ih
    refine s_X12_keep_2 g _ P _ ⟨fun c => absurd (show nI 2220 ≤ nI i from c) (nI_ge hi (by omega)), fun _ => ?_⟩
    have e1 : su σ 170 (va_cpy (σ 169) (σ 170) 0 0 i) 169 = σ 169 := rfl
    rw [nI_clamp (by omega), e1, su_same, su_su, nI_1]
    have e2 := cpy_1 (f := σ 169) (c := σ 170) (sp := 0) (dp := 0) (i := i)
    rw [show 0 + i = i by omega] at e2
    rw [e2]
    exact ⟨inN (by omega) (by omega), ih⟩
theorem l_mback (P : Option Value → vt_Sg → Prop) (h : P (some (.int (va_cpy (σ 170) (σ 169) 0 0 2220 0))) (su σ 169 (va_cpy (σ 170) (σ 169) 0 0 2220))) : TT g (vt_R 0) 0 0 D_X12_back none 12 [some (.ref (g.2.1 168)), some (.int 0)] [] σ P := by
  have key := lpD 2220 (fun i => TT g (vt_R 0) 0 0 D_X12_back none 12 [some (.ref (g.2.1 168)), some (.int (nI i))] [] (su σ 169 (va_cpy (σ 170) (σ 169) 0 0 i)) P) ?_ ?_
  · rw [cpy_0, su_self] at key
    exact key
  · exact s_X12_back_12 g _ P _ ⟨fun _ => h, fun c => absurd (by decide) c⟩
  · intro i hi ih
    refine s_X12_back_12 g _ P _ ⟨fun c => absurd (show nI 2220 ≤ nI i from c) (nI_ge hi (by omega)), fun _ => ?_⟩
    have e1 : su σ 169 (va_cpy (σ 170) (σ 169) 0 0 i) 170 = σ 170 := rfl
    rw [nI_clamp (by omega), e1, su_same, su_su, nI_1]
    have e2 := cpy_1 (f := σ 170) (c := σ 169) (sp := 0) (dp := 0) (i := i)
    rw [show 0 + i = i by omega] at e2
    rw [e2]
    exact ⟨inN (by omega) (by omega), ih⟩
theorem held01 {x : Nat → Nat → Int32} {n : Nat → Int32} (h : RelA x n) : ∀ s, s < 12 → x 25 s = 0 ∨ x 25 s = 1 := by
  obtain ⟨t, nd, ns, nm, nl, lv, hN, hF, hR, hD, hS, hM, hL, hE, hV⟩ := h
  intro s hs
  by_cases q : s < ns
  · rcases hE.2 s q with h1 | h1
    · exact Or.inl h1.1
    · exact Or.inr h1.1
  · exact Or.inl (hE.1 s hs (by omega))
theorem today_eq {x : Nat → Nat → Int32} {n : Nat → Int32} (h : RelA x n) : x 0 9 = n 0 := by
  obtain ⟨t, nd, ns, nm, nl, lv, hN, -⟩ := h
  exact hN.2.1.1.trans hN.2.2.1.symm
theorem op_keep (hI : Inv σ) : vt_Mi g 3 D_X11_keep [.ref (g.2.1 0)] σ (fun r σ1 => vt_Mi g 0 D_X12_keep [.ref (g.2.1 168)] σ1 (fun r' σ2 => r = r' ∧ Inv σ2)) := by
  obtain ⟨hA, hi, ht, hw, hs⟩ := hI
  refine mI ok_X11_keep.1 rfl rfl rfl (s_X11_keep_0 g σ _ (c_X0K (held01 hA) _ (fun σ1 f1 g1 => ⟨_, rfl, mI ok_X12_keep.1 rfl rfl rfl (s_X12_keep_0 g _ _ (l_mkeep _ ⟨_, rfl, ?_, ?_, ?_, ?_, ?_, ?_⟩))⟩)))
  · show σ1 1 9 = σ1 169 0
    rw [f1 1 (by omega), f1 169 (by omega)]
    exact today_eq hA
  · show RelA (fun k => su (su (su σ1 0 _) 170 _) 168 _ (1 + k)) (σ1 169)
    rw [f1 169 (by omega)]
    exact hA.cg (fun k hk => by simp (disch := omega) only [su_ne]; exact f1 _ (by omega))
  · refine Or.inr ⟨rfl, rfl, hA.cgR (fun i j hl => ?_) (fun j hj => ?_)⟩
    · have hi : i < 53 := by unfold lk at hl; omega
      simp (disch := omega) only [su_ne]
      exact g1 i j hl
    · show va_cpy (σ1 169) (σ1 170) 0 0 2220 j = σ 169 j
      rw [f1 169 (by omega)]
      exact sb_cpy0 hj
  · show I_tape (σ1 107 0) (σ1 168 4) (σ1 110) (σ1 171)
    rw [f1 107 (by omega), f1 168 (by omega), f1 110 (by omega), f1 171 (by omega)]
    exact ht
  · show I_wait (σ1 0 10) (σ1 168 6) (σ1 167) (σ1 172)
    rw [f1 0 (by omega), f1 168 (by omega), f1 167 (by omega), f1 172 (by omega)]
    exact hw
  · show I_sheet (σ1 115) (σ1 173) (σ1 113) (σ1 114) (σ1 174)
    rw [f1 115 (by omega), f1 173 (by omega), f1 113 (by omega), f1 114 (by omega), f1 174 (by omega)]
    exact hs
theorem op_back (hI : Inv σ) : vt_Mi g 3 D_X11_back [.ref (g.2.1 0)] σ (fun r σ1 => vt_Mi g 0 D_X12_back [.ref (g.2.1 168)] σ1 (fun r' σ2 => r = r' ∧ Inv σ2)) := by
  obtain ⟨hA, hi, ht, hw, hs⟩ := id hI
  rcases hi with ⟨h1, h2⟩ | ⟨h1, h2, hB⟩
  · exact mI ok_X11_back.1 rfl rfl rfl (s_X11_back_0 g σ _ ⟨fun c => absurd h1 c, fun _ => ⟨_, rfl, mI ok_X12_back.1 rfl rfl rfl (s_X12_back_0 g _ _ ⟨fun c => absurd h2 c, fun _ => ⟨_, rfl, rfl, hI⟩⟩)⟩⟩)
  · refine mI ok_X11_back.1 rfl rfl rfl (s_X11_back_0 g σ _ ⟨fun _ => c_X0B (held01 hB) _ (fun σ1 f1 g1 => ⟨_, rfl, mI ok_X12_back.1 rfl rfl rfl (s_X12_back_0 g _ _ ⟨fun _ => l_mback _ ⟨_, rfl, ?_, ?_, ?_, ?_, ?_, ?_⟩, fun c => ?_⟩)⟩), fun c => absurd (h1.symm.trans c) (by decide)⟩)
    · have e1 : σ1 1 9 = σ 54 9 := g1 0 9 (by unfold lk; omega)
      rw [e1, sb_cpy0 (by omega), f1 170 (by omega)]
      exact today_eq hB
    · refine hB.cgR (fun i j hl => ?_) (fun j hj => ?_)
      · have hi : i < 53 := by unfold lk at hl; omega
        simp (disch := omega) only [su_ne]
        exact g1 i j hl
      · show va_cpy (σ1 170) (σ1 169) 0 0 2220 j = σ 170 j
        rw [f1 170 (by omega)]
        exact sb_cpy0 hj
    · show I_img (σ1 0 2) (σ1 168 2) (fun k => su σ1 169 _ (54 + k)) (σ1 170)
      rw [f1 0 (by omega), f1 168 (by omega), f1 170 (by omega)]
      exact Or.inr ⟨h1, h2, hB.cg (fun k hk => by simp (disch := omega) only [su_ne]; exact f1 _ (by omega))⟩
    · show I_tape (σ1 107 0) (σ1 168 4) (σ1 110) (σ1 171)
      rw [f1 107 (by omega), f1 168 (by omega), f1 110 (by omega), f1 171 (by omega)]
      exact ht
    · show I_wait (σ1 0 10) (σ1 168 6) (σ1 167) (σ1 172)
      rw [f1 0 (by omega), f1 168 (by omega), f1 167 (by omega), f1 172 (by omega)]
      exact hw
    · show I_sheet (σ1 115) (σ1 173) (σ1 113) (σ1 114) (σ1 174)
      rw [f1 115 (by omega), f1 173 (by omega), f1 113 (by omega), f1 114 (by omega), f1 174 (by omega)]
      exact hs
    · rw [f1 168 (by omega), h2] at c
      exact absurd c (by decide)
end OPS7
