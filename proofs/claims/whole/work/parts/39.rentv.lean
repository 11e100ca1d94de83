/-! A PART OF A LEASE has the same worth on both sides -/
section RENTV
variable {g : vt_GT} {σ : vt_Sg} {p1 p2 p3 p4 p5 : Int32} {A : Nat → Option Nat} {t nd ns nm nl lv m : Nat}
/-- the component's world while it asks -/
def WX (σ : vt_Sg) (A : Nat → Option Nat) (nd m : Nat) (τ : vt_Sg) : Prop := (∀ k, (k < 116 ∨ (122 < k ∧ k ≠ 166)) → τ k = σ k) ∧ CR τ A nd ∧ τ 116 1 = nI m
/-- the reference's -/
def WM (σ : vt_Sg) (A : Nat → Option Nat) (υ : vt_Sg) : Prop := (∀ k, (k < 116 ∨ (122 < k ∧ k < 175 ∧ k ≠ 166)) → υ k = σ k) ∧ ∀ s, s < 12 → υ 175 s = opM (A s)
theorem WX.fc {τ τ' : vt_Sg} (h : WX σ A nd m τ) (hf : Fc τ τ') : WX σ A nd m τ' := by
  obtain ⟨h1, ⟨c1, c2, c3, c4, c5⟩, h3⟩ := h
  have e : ∀ k, k < 121 → τ' k = τ k := fun k hk => hf k (by omega) (by omega)
  refine ⟨fun k hk => (hf k (by omega) (by omega)).trans (h1 k hk), ⟨?_, ?_, ?_, ?_, ?_⟩, ?_⟩
  · rw [e 117 (by omega)]; exact c1
  · rw [e 118 (by omega)]; exact c2
  · rw [e 116 (by omega)]; exact c3
  · rw [e 119 (by omega), e 10 (by omega), e 6 (by omega)]; exact c4
  · rw [e 120 (by omega), e 10 (by omega), e 5 (by omega), e 6 (by omega)]; exact c5
  · rw [e 116 (by omega)]; exact h3
theorem WM.fp {υ υ' : vt_Sg} (h : WM σ A υ) (hf : Fp υ υ') : WM σ A υ' := ⟨fun k hk => (hf k (by omega)).trans (h.1 k hk), fun s hs => by rw [hf 175 (by omega)]; exact h.2 s hs⟩
theorem work_val (hRel : RelN t nd ns nm nl lv (fun k => σ (1 + k)) (σ 169)) (hA : inj12 A) (hlt : ∀ s, ns ≤ s → A s = none) {k : Int32} (hk : ¬ k < 0) {s p : Nat} (hs : s < ns) (ha : A s = some p) (hh : ¬ σ 26 s = 0) {j : Nat} (hj : j < 3) :
    ∃ R : Int32, (∀ τ, WX σ A nd m τ → ∀ Φ : Int32 → vt_Sg → Prop, (∀ τ', WX σ A nd m τ' → τ' 166 = τ 166 → Φ R τ') → vt_Mi g 3 D_X1_work [.ref (g.2.1 121), .ref (g.2.1 116), .int (nI s), .int (nI j), .int k] τ Φ) ∧
      (∀ υ, WM σ A υ → ∀ Φ : Int32 → vt_Sg → Prop, (∀ υ', WM σ A υ' → υ' 178 = υ 178 → Φ R υ') → vt_Mi g 4 D_X12_worked [.ref (g.2.1 168), .int (nI s), .int (nI j), .int (nI m), .int k] υ Φ) := by
  obtain ⟨⟨⟨bt, bd, bs, bm, bl, bv⟩, ⟨xt, xv, xd, xs, xm, xl⟩, ⟨yt, yd, ys, ym, yl, yv⟩⟩, hF, hR, hD, hS, hM, ⟨ls, lm, lt, lw, hln⟩, hE, hV⟩ := hRel
  have hF : A_feet (σ 2) (σ 169) := hF
  have hD : A_doors nd (σ 5) (σ 6) (σ 169) := hD
  have hS : A_shops ns (σ 8) (σ 9) (σ 10) (σ 11) (σ 12) (σ 13) (σ 14) (σ 169) := hS
  have hln : A_ln nl (σ 20) (σ 21) (σ 22) (σ 23) (σ 24) (σ 169) ls lm lt lw := hln
  have xs : σ 7 7 = nI ns := xs
  have xl : σ 19 5 = nI nl := xl
  rcases hE.2 s hs with ⟨h0, _⟩ | ⟨_, _, hL⟩
  · exact absurd h0 hh
  have hL : LC (σ (1 + (27 + s))) (σ (1 + (40 + s))) (fun j => σ 169 (540 + 140 * s + j)) := hL
  rw [show 1 + (27 + s) = 28 + s by omega, show 1 + (40 + s) = 41 + s by omega] at hL
  obtain ⟨c0, c1, c2, hB⟩ := hL.lb
  refine ⟨evl (nvl A nd (σ 2) (σ 5) (σ 6) (σ 8) (σ 9) (σ 10) (σ 12) (mx0 (sm nl (tkv (σ 20) (σ 21) (σ 22) (σ 23) (σ 24) (nI s) (nI m) k))) (nI m) s p) (prt c0 c1 c2 j) (fun _ => 0) 0, ?_, ?_⟩
  · intro τ hτ Φ h
    refine c_X1_work (σ := τ) (by omega) (cd := fun j => σ 169 (540 + 140 * s + j)) (c0 := c0) (c1 := c1) (c2 := c2) (by rw [hτ.1 (28 + s) (by omega), hτ.1 (41 + s) (by omega)]; exact hB) hj (fun τ' hf i hi Ψ hΨ => ?_) Φ (fun τ' hf => h τ' (hτ.fc hf) (hf 166 (by omega) (by omega)))
    have w := hτ.fc hf
    have e : ∀ k, k < 116 → τ' k = σ k := fun k hk => w.1 k (by omega)
    refine c_X1_valueOf (σ := τ') (nl := nl) (ns := ns) w.2.1 hA hlt bs (by rw [e 7 (by omega)]; exact xs) (by rw [e 19 (by omega)]; exact xl) bl (by omega) ha Ψ ?_
    rw [e 2 (by omega), e 5 (by omega), e 6 (by omega), e 8 (by omega), e 9 (by omega), e 10 (by omega), e 12 (by omega), e 20 (by omega), e 21 (by omega), e 22 (by omega), e 23 (by omega), e 24 (by omega), w.2.2]
    exact hΨ
  · intro υ hυ Φ h
    have e9 : υ 169 = σ 169 := hυ.1 169 (by omega)
    refine c_X12_worked (σ := υ) (by omega) (st := σ (28 + s)) (en := σ (41 + s)) (c0 := c0) (c1 := c1) (c2 := c2) (by rw [e9]; exact hB) hj (fun υ' hf i hi Ψ hΨ => ?_) Φ (fun υ' hf => h υ' (hυ.fp hf) (hf 178 (by omega)))
    have w := hυ.fp hf
    have e : υ' 169 = σ 169 := w.1 169 (by omega)
    exact c_X12_named (σ := υ') (A := A) (nd := nd) (ns := ns) (nl := nl) (fe := σ 2) (dp := σ 5) (dq := σ 6) (ki := σ 8) (so := σ 9) (pu := σ 10) (lu := σ 11) (ne := σ 12) (sp := σ 13) (a := σ 14) (l1 := σ 20) (l2 := σ 21) (l3 := σ 22) (l4 := σ 23) (l5 := σ 24) w.2 hA hlt bs (by rw [e]; exact hS) (by rw [e]; exact hD) bd (by rw [e]; exact yd) (by rw [e]; exact hF) (by rw [e]; exact yl) bl (by rw [e]; exact hln) hs ha hk hi Ψ hΨ
def clp (r : Int32) : Int32 := if 0 < (if r < 99999 then r else 99999) then (if r < 99999 then r else 99999) else 0
theorem rent_val (hRel : RelN t nd ns nm nl lv (fun k => σ (1 + k)) (σ 169)) (hA : inj12 A) (hlt : ∀ s, ns ≤ s → A s = none) {k : Int32} (hk : ¬ k < 0) {s : Nat} (hs : s < ns) :
    ∃ R : Int32, (∀ τ, WX σ A nd m τ → ∀ Φ : Int32 → vt_Sg → Prop, (∀ τ', WX σ A nd m τ' → Φ R τ') → vt_Mi g 5 D_X11_rentOf [.ref (g.2.1 0), .int (nI s), .int k] τ Φ) ∧
      (∀ υ, WM σ A υ → ∀ Φ : Int32 → vt_Sg → Prop, (∀ υ', WM σ A υ' → Φ R υ') → vt_Mi g 5 D_X12_rentOf [.ref (g.2.1 168), .int (nI s), .int (nI m), .int k] υ Φ) := by
  have bs : ns ≤ 12 := hRel.1.1.2.2.1
  have hE : A_leases ns (σ 26) (fun s => σ (1 + (27 + s))) (fun s => σ (1 + (40 + s))) (σ 169) := hRel.2.2.2.2.2.2.2.1
  have e7 : (30 : Int32) + 8 * nI s + 7 = nI (30 + 8 * s + 7) := shop_ix (f := 7)
  have ix : vp_in (nI s) 12 := inN (by omega) (by omega)
  have i7 : vp_in (nI (30 + 8 * s + 7)) 2220 := inN (by omega) (by omega)
  have x7 : ∀ τ, WX σ A nd m τ → τ 117 (nI s).toNatClampNeg = opN (A s) ∧ τ 26 (nI s).toNatClampNeg = σ 26 s := fun τ w => by rw [nI_clamp (by omega), w.1 26 (by omega)]; exact ⟨w.2.1.1 s (by omega), rfl⟩
  have y7 : ∀ υ, WM σ A υ → υ 175 (nI s).toNatClampNeg = opM (A s) ∧ υ 169 (nI (30 + 8 * s + 7)).toNatClampNeg = σ 169 (37 + 8 * s) := fun υ w => by rw [nI_clamp (by omega), nI_clamp (by omega), w.1 169 (by omega), show 30 + 8 * s + 7 = 37 + 8 * s by omega]; exact ⟨w.2 s (by omega), rfl⟩
  cases ha : A s with
  | none =>
    refine ⟨0, fun τ w Φ h => mI ok_X11_rentOf.1 rfl rfl rfl (s_X11_rentOf_0 g τ _ (nI s) k ⟨ix, ?_⟩), fun υ w Φ h => mI ok_X12_rentOf.1 rfl rfl rfl (s_X12_rentOf_0 g υ _ (nI s) (nI m) k ⟨ix, ?_⟩)⟩
    · rw [(x7 τ w).1, ha]
      exact ⟨fun _ => ⟨_, rfl, h τ w⟩, fun c => absurd rfl c⟩
    · rw [(y7 υ w).1, ha]
      exact ⟨fun _ => ⟨_, rfl, h υ w⟩, fun c => absurd (show opM none < 0 by decide) c⟩
  | some p =>
    have hp := hA.2.1 s p ha
    have N0 : ¬ opN (some p) = -1000000005 := nI_neNONE (by omega)
    have M0 : ¬ opM (some p) < 0 := nI_pos (by omega)
    by_cases hh : σ 26 s = 0
    · refine ⟨0, fun τ w Φ h => mI ok_X11_rentOf.1 rfl rfl rfl (s_X11_rentOf_0 g τ _ (nI s) k ⟨ix, ?_⟩), fun υ w Φ h => mI ok_X12_rentOf.1 rfl rfl rfl (s_X12_rentOf_0 g υ _ (nI s) (nI m) k ⟨ix, ?_⟩)⟩
      · rw [(x7 τ w).1, (x7 τ w).2, ha]
        exact ⟨fun c => absurd c N0, fun _ => ⟨fun c => absurd hh c, fun _ => ⟨_, rfl, h τ w⟩⟩⟩
      · rw [e7, (y7 υ w).1, (y7 υ w).2, ha]
        refine ⟨fun c => absurd c M0, fun _ => ⟨i7, fun c => ?_, fun _ => ⟨_, rfl, h υ w⟩⟩⟩
        rcases hE.2 s hs with ⟨_, h0⟩ | ⟨h0, _⟩
        · rw [h0] at c; exact absurd c (by decide)
        · rw [hh] at h0; exact absurd h0 (by decide)
    · obtain ⟨R0, X0, Y0⟩ := work_val (g := g) (m := m) hRel hA hlt hk hs ha hh (j := 0) (by omega)
      obtain ⟨R1, X1, Y1⟩ := work_val (g := g) (m := m) hRel hA hlt hk hs ha hh (j := 1) (by omega)
      refine ⟨clp R0 + clp R1, fun τ w Φ h => mI ok_X11_rentOf.1 rfl rfl rfl (s_X11_rentOf_0 g τ _ (nI s) k ⟨ix, ?_⟩), fun υ w Φ h => mI ok_X12_rentOf.1 rfl rfl rfl (s_X12_rentOf_0 g υ _ (nI s) (nI m) k ⟨ix, ?_⟩)⟩
      · rw [(x7 τ w).1, (x7 τ w).2, ha]
        refine ⟨fun c => absurd c N0, fun _ => ⟨fun _ => ?_, fun c => absurd c hh⟩⟩
        refine mI ok_X11_rentPart.1 rfl rfl rfl (s_X11_rentPart_0 g τ _ (nI s) 0 k (X0 τ w _ (fun τ' w' _ => ⟨_, rfl, ?_⟩)))
        exact mI ok_X11_rentPart.1 rfl rfl rfl (s_X11_rentPart_0 g τ' _ (nI s) 1 k (X1 τ' w' _ (fun τ'' w'' _ => ⟨_, rfl, _, rfl, h τ'' w''⟩)))
      · rw [e7, (y7 υ w).1, (y7 υ w).2, ha]
        refine ⟨fun c => absurd c M0, fun _ => ⟨i7, fun _ => Y0 υ w _ (fun υ' w' _ => Y1 υ' w' _ (fun υ'' w'' _ => ⟨_, rfl, h υ'' w''⟩)), fun c => ?_⟩⟩
        rcases hE.2 s hs with ⟨h0, _⟩ | ⟨_, ⟨q, q1, q2, q3⟩, _⟩
        · exact absurd h0 hh
        · rw [q3] at c; exact absurd (nI_lt (a := 0) q1 (by omega)) c
end RENTV
