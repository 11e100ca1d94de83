/-! WORKING OUT A PART OF A LEASE: the reference -/
section WORKED
variable {g : vt_GT} {σ : vt_Sg} {p1 p2 p3 p4 p5 : Int32}
def Fp (σ τ : vt_Sg) : Prop := ∀ k, k ≠ 177 → τ k = σ k
theorem tr_not : tr (-33) = nI 200009 := by decide
theorem l_worked {nv : Int32 → Int32} {s : Nat} {x2 x3 x4 x6 : Int32} (P : Option Value → vt_Sg → Prop)
    (hv : ∀ τ, Fp σ τ → ∀ i, i < 10 → ∀ Φ : Int32 → vt_Sg → Prop, Φ (nv (namesB.getD i 0)) τ → vt_Mi g 3 D_X12_named [.ref (g.2.1 168), .int (nI i), .int (nI s), .int x3, .int x4] τ Φ) :
    ∀ (l : List Int32) (i h : Nat) (F : Nat → Int32) (τ : vt_Sg), i + l.length < 2220 → h + l.length ≤ 132 → dpt l h = some 1 → (∀ j, j < l.length → σ 169 (i + j) = tr (l.getD j 0)) → σ 169 (i + l.length) = 300000 → Fp σ τ → (∀ j, j < h → τ 177 j = F j) → (∀ τ', Fp σ τ' → P (some (.int (evl nv l F h))) τ') →
      TT g (vt_R 4) 0 0 D_X12_worked none 50 [some (.ref (g.2.1 168)), some (.int (nI s)), some (.int x2), some (.int x3), some (.int x4), some (.int (nI i)), some (.int x6), some (.int (nI h)), none] [] τ P := by
  intro l
  induction l with
  | nil =>
    intro i h F τ hi hb hd hc hx hf hF H
    have hi : i < 2220 := hi
    have : h = 1 := by cases hd; rfl
    subst this
    have e : τ 169 (nI i).toNatClampNeg = 300000 := by rw [nI_clamp (by omega), hf 169 (by omega)]; exact hx
    refine s_X12_worked_50 g τ P _ _ _ _ _ _ _ ⟨inN hi (by omega), fun _ => ?_, fun c => absurd e c⟩
    have := H τ hf
    rw [show evl nv [] F 1 = F 0 from rfl, ← hF 0 (by omega)] at this
    exact this
  | cons v l ih =>
    intro i h F τ hi hb hd hc hx hf hF H
    have hi : i + (l.length + 1) < 2220 := hi
    have hb : h + (l.length + 1) ≤ 132 := hb
    have hx : σ 169 (i + (l.length + 1)) = 300000 := hx
    have hv0 : σ 169 i = tr v := hc 0 (Nat.succ_pos _)
    have fv : τ 169 (nI i).toNatClampNeg = tr v := by rw [nI_clamp (by omega), hf 169 (by omega)]; exact hv0
    have hc' : ∀ j, j < l.length → σ 169 (i + 1 + j) = tr (l.getD j 0) := fun j hj => by
      have := hc (j + 1) (Nat.succ_lt_succ hj)
      rw [show i + 1 + j = i + (j + 1) by omega]
      exact this
    have hx' : σ 169 (i + 1 + l.length) = 300000 := by rw [show i + 1 + l.length = i + (l.length + 1) by omega]; exact hx
    refine s_X12_worked_50 g τ P _ _ _ _ _ _ _ ⟨inN (by omega) (by omega), ?_⟩
    rw [fv, nI_1]
    rw [dpt] at hd
    have push : isLf v = true → ∀ w, w = (if ¬ v < 0 then v else nv (-v)) → vp_in (nI h) 140 ∧ TT g (vt_R 4) 0 0 D_X12_worked none 50 [some (.ref (g.2.1 168)), some (.int (nI s)), some (.int x2), some (.int x3), some (.int x4), some (.int (nI (i + 1))), some (.int x6), some (.int (nI h + 1)), none] [] (su τ 177 (upd (τ 177) (nI h).toNatClampNeg w)) P := by
      intro z w hw
      rw [if_pos z] at hd
      rw [nI_clamp (by omega), nI_1]
      refine ⟨inN (by omega) (by omega), ih (i + 1) (h + 1) (stp nv v F h) _ (by omega) (by omega) hd hc' hx' (fun k a => by rw [su_ne a]; exact hf k a) (fun j hj => ?_) (fun τ' ht => ?_)⟩
      · show upd (τ 177) h w j = _
        unfold stp
        rw [if_pos z]
        by_cases q : j = h
        · subst q; rw [upd_same, upd_same, hw]
        · rw [upd_ne q, upd_ne q]; exact hF j (by omega)
      · have := H τ' ht
        rw [evl, if_pos z] at this
        exact this
    by_cases z : isLf v = true
    · rcases lf_cases z with ⟨a1, a2, q, q1, q2⟩ | ⟨a1, a2, a3, q, q1, q2, q3⟩
      · have e : tr v = nI q := a2.trans q2
        refine ⟨fun c => ?_, fun _ => ⟨fun c => ?_, fun _ => ⟨fun c => ?_, fun _ => push z _ (a2.trans (if_pos a1).symm)⟩⟩⟩
        · rw [e] at c; exact absurd (nI_inj (b := 300000) c (by omega) (by omega)) (by omega)
        · rw [e] at c; exact absurd c (nI_ge (b := 200000) (by omega) (by omega))
        · rw [e] at c; exact absurd c (nI_ge (b := 100000) (by omega) (by omega))
      · have e3 : nI (100000 + q) - 100000 = nI q := (pk_sub (b := 100000) (by omega)).trans (congrArg nI (by omega))
        rw [q2, e3]
        refine ⟨fun c => absurd (nI_inj (b := 300000) c (by omega) (by omega)) (by omega), fun _ => ⟨fun c => absurd c (nI_ge (b := 200000) (by omega) (by omega)), fun _ => ⟨fun _ => hv τ hf q q1 _ (push z _ ?_), fun c => absurd (nI_le (a := 100000) (by omega) (by omega)) c⟩⟩⟩
        rw [if_neg (fun c => c a1), q3]
    · rw [if_neg z] at hd
      by_cases y : v = -33
      · rw [if_pos y] at hd
        by_cases hp : 1 ≤ h
        · rw [if_pos hp] at hd
          obtain ⟨h', rfl⟩ : ∃ h', h = h' + 1 := ⟨h - 1, by omega⟩
          have et : tr v = nI 200009 := by rw [y]; exact tr_not
          have e : nI (h' + 1) - 1 = nI h' := nI_pred h'
          rw [et, e, nI_clamp (n := h') (by omega)]
          have go : ∀ w, w = (if F h' = 0 then (1 : Int32) else 0) → TT g (vt_R 4) 0 0 D_X12_worked none 50 [some (.ref (g.2.1 168)), some (.int (nI s)), some (.int x2), some (.int x3), some (.int x4), some (.int (nI (i + 1))), some (.int x6), some (.int (nI (h' + 1))), none] [] (su τ 177 (upd (τ 177) h' w)) P := by
            intro w hw
            refine ih (i + 1) (h' + 1) (stp nv v F (h' + 1)) _ (by omega) (by omega) hd hc' hx' (fun k a => by rw [su_ne a]; exact hf k a) (fun j hj => ?_) (fun τ' ht => ?_)
            · show upd (τ 177) h' w j = _
              unfold stp
              rw [if_neg z, if_pos y, show h' + 1 - 1 = h' by omega]
              by_cases q : j = h'
              · subst q; rw [upd_same, upd_same, hw]
              · rw [upd_ne q, upd_ne q]; exact hF j (by omega)
            · have := H τ' ht
              rw [evl, if_neg z, if_pos y] at this
              exact this
          rw [hF h' (by omega)]
          exact ⟨fun c => absurd c (by decide), fun _ => ⟨fun _ => ⟨fun c => absurd rfl c, fun _ => ⟨inN (by omega) (by omega), fun c => go 0 (if_neg c).symm, fun c => go 1 (if_pos c).symm⟩⟩, fun c => absurd (by decide) c⟩⟩
        · rw [if_neg hp] at hd; cases hd
      · rw [if_neg y] at hd
        by_cases x : isSg v = true
        · rw [if_pos x] at hd
          by_cases hp : 2 ≤ h
          · rw [if_pos hp] at hd
            obtain ⟨h', rfl⟩ : ∃ h', h = h' + 2 := ⟨h - 2, by omega⟩
            obtain ⟨q, q1, q2, q3, q4, q5, q6⟩ := sg_ix x y
            have e1 : nI (h' + 2) + -1 = nI (h' + 1) := pk_m1 (h' + 1)
            have e2 : nI (h' + 1) - 1 = nI h' := nI_pred h'
            have e3 : nI (200000 + q) - 200000 = nI q := (pk_sub (b := 200000) (by omega)).trans (congrArg nI (by omega))
            rw [q2, e1, e2, e3, nI_clamp (n := h') (by omega), nI_clamp (n := h' + 1) (by omega), q3]
            refine ⟨fun c => absurd (nI_inj (b := 300000) c (by omega) (by omega)) (by omega), fun _ => ⟨fun _ => ⟨fun _ => ⟨inN (by omega) (by omega), inN (by omega) (by omega), ?_⟩, fun c => absurd (nI_inj (b := 200009) c (by omega) (by omega)) (by omega)⟩, fun c => absurd (nI_le (a := 200000) (by omega) (by omega)) c⟩⟩
            refine ih (i + 1) (h' + 1) (stp nv v F (h' + 2)) _ (by omega) (by omega) (by rw [show h' + 2 - 1 = h' + 1 by omega] at hd; exact hd) hc' hx' (fun k a => by rw [su_ne a]; exact hf k a) (fun j hj => ?_) (fun τ' ht => ?_)
            · show upd (τ 177) h' _ j = _
              unfold stp
              rw [if_neg z, if_neg y, show h' + 2 - 2 = h' by omega, show h' + 2 - 1 = h' + 1 by omega]
              by_cases w : j = h'
              · subst w; rw [upd_same, upd_same, hF j (by omega), hF (j + 1) (by omega)]
              · rw [upd_ne w, upd_ne w]; exact hF j (by omega)
            · have := H τ' ht
              rw [evl, if_neg z, if_neg y, show h' + 2 - 1 = h' + 1 by omega] at this
              exact this
          · rw [if_neg hp] at hd; cases hd
        · rw [if_neg x] at hd; cases hd
/-- over a part to the next -/
theorem l_skip {s : Nat} {x2 x3 x4 : Int32} (P : Option Value → vt_Sg → Prop) {left : Nat} (hl : left < 3) : ∀ (n i : Nat), i + n < 2220 → (∀ j, j < n → ¬ σ 169 (i + j) = 300000) → σ 169 (i + n) = 300000 →
      TT g (vt_R 4) 0 0 D_X12_worked none 14 [some (.ref (g.2.1 168)), some (.int (nI s)), some (.int x2), some (.int x3), some (.int x4), some (.int (nI (i + n + 1))), some (.int (nI left)), none, none] [] σ P →
      TT g (vt_R 4) 0 0 D_X12_worked none 14 [some (.ref (g.2.1 168)), some (.int (nI s)), some (.int x2), some (.int x3), some (.int x4), some (.int (nI i)), some (.int (nI (left + 1))), none, none] [] σ P := by
  intro n
  induction n with
  | zero =>
    intro i hi _ hx H
    have hx : σ 169 i = 300000 := hx
    have e : nI (left + 1) - 1 = nI left := nI_pred left
    refine s_X12_worked_14 g σ P _ _ _ _ _ _ ⟨fun c => absurd c (nI_nle (by omega) (by omega)), fun _ => ⟨inN (by omega) (by omega), ?_⟩⟩
    rw [nI_clamp (by omega), hx, nI_1, e]
    exact ⟨fun c => absurd rfl c, fun _ => H⟩
  | succ n ih =>
    intro i hi hc hx H
    have h0 : ¬ σ 169 i = 300000 := hc 0 (by omega)
    refine s_X12_worked_14 g σ P _ _ _ _ _ _ ⟨fun c => absurd c (nI_nle (by omega) (by omega)), fun _ => ⟨inN (by omega) (by omega), ?_⟩⟩
    rw [nI_clamp (by omega), nI_1, Int32.sub_zero]
    refine ⟨fun _ => ih (i + 1) (by omega) (fun j hj => ?_) ?_ ?_, fun c => absurd c h0⟩
    · rw [show i + 1 + j = i + (j + 1) by omega]; exact hc (j + 1) (by omega)
    · rw [show i + 1 + n = i + (n + 1) by omega]; exact hx
    · rw [show i + 1 + n + 1 = i + (n + 1) + 1 by omega]; exact H
end WORKED
