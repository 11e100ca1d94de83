/-! WORKING OUT A PART OF A LEASE -/
section EVAL
variable {g : vt_GT} {σ : vt_Sg} {p1 p2 p3 p4 p5 : Int32}
/-- the pile behind a step -/
def stp (nv : Int32 → Int32) (v : Int32) (F : Nat → Int32) (h : Nat) : Nat → Int32 := if isLf v then upd F h (if ¬ v < 0 then v else nv (-v)) else if v = -33 then upd F (h - 1) (if F (h - 1) = 0 then 1 else 0) else upd F (h - 2) (jn (-v) (F (h - 2)) (F (h - 1)))
def evl (nv : Int32 → Int32) : List Int32 → (Nat → Int32) → Nat → Int32
  | [], F, _ => F 0
  | v :: l, F, h => evl nv l (stp nv v F h) (if isLf v then h + 1 else if v = -33 then h else h - 1)
theorem nm_ix {v : Int32} (h : namesB.any (fun b => decide (v = -b)) = true) : ∃ i : Nat, i < 10 ∧ tr v = nI (100000 + i) ∧ namesB.getD i 0 = -v ∧ v < 0 ∧ ¬ -97 < v ∧ ¬ v < -122 := by
  simp only [namesB, List.any_cons, List.any_nil, Bool.or_eq_true, decide_eq_true_eq, Bool.or_false] at h
  rcases h with h | h | h | h | h | h | h | h | h | h <;> subst h
  · exact ⟨0, by decide⟩
  · exact ⟨1, by decide⟩
  · exact ⟨2, by decide⟩
  · exact ⟨3, by decide⟩
  · exact ⟨4, by decide⟩
  · exact ⟨5, by decide⟩
  · exact ⟨6, by decide⟩
  · exact ⟨7, by decide⟩
  · exact ⟨8, by decide⟩
  · exact ⟨9, by decide⟩
theorem lf_cases {v : Int32} (h : isLf v = true) : (¬ v < 0 ∧ tr v = v ∧ ∃ j : Nat, j ≤ 99999 ∧ v = nI j) ∨ (v < 0 ∧ ¬ -97 < v ∧ ¬ v < -122 ∧ ∃ i : Nat, i < 10 ∧ tr v = nI (100000 + i) ∧ namesB.getD i 0 = -v) := by
  unfold isLf at h
  rw [Bool.or_eq_true, Bool.and_eq_true, decide_eq_true_eq, decide_eq_true_eq] at h
  rcases h with h | h
  · refine Or.inl ⟨h.1, if_pos h.1, ?_⟩
    exact rng h.1 (Int32.not_lt.mpr h.2) (n := 99999) rfl
  · obtain ⟨i, h1, h2, h3, h4, h5, h6⟩ := nm_ix h
    exact Or.inr ⟨h4, h5, h6, i, h1, h2, h3⟩
theorem sg_ix {v : Int32} (h : isSg v = true) (hn : ¬ v = -33) : ∃ i : Nat, i < 9 ∧ tr v = nI (200000 + i) ∧ (∀ a b, dn (nI i) a b = jn (-v) a b) ∧ v < 0 ∧ ¬ -v = 33 ∧ (¬ -97 < v → v < -122) := by
  simp only [isSg, signsB, List.any_cons, List.any_nil, Bool.or_eq_true, decide_eq_true_eq, Bool.or_false] at h
  rcases h with h | h | h | h | h | h | h | h | h | h <;> subst h
  · exact ⟨0, by decide, by decide, fun a b => rfl, by decide, by decide, by decide⟩
  · exact ⟨1, by decide, by decide, fun a b => rfl, by decide, by decide, by decide⟩
  · exact ⟨2, by decide, by decide, fun a b => rfl, by decide, by decide, by decide⟩
  · exact ⟨3, by decide, by decide, fun a b => rfl, by decide, by decide, by decide⟩
  · exact ⟨4, by decide, by decide, fun a b => rfl, by decide, by decide, by decide⟩
  · exact ⟨5, by decide, by decide, fun a b => rfl, by decide, by decide, by decide⟩
  · exact ⟨6, by decide, by decide, fun a b => rfl, by decide, by decide, by decide⟩
  · exact ⟨7, by decide, by decide, fun a b => rfl, by decide, by decide, by decide⟩
  · exact ⟨8, by decide, by decide, fun a b => rfl, by decide, by decide, by decide⟩
  · exact absurd rfl hn
theorem c_X1_push {h : Nat} (h1 : σ 121 1 = nI h) (hb : h < 132) {v : Int32} (Φ : vt_Sg → Prop) (H : Φ (su (su σ 122 (upd (σ 122) h v)) 121 (upd (σ 121) 1 (nI (h + 1))))) : vt_Mv g 0 D_X1_push [.ref (g.2.1 121), .int v] σ Φ := by
  refine mV ok_X1_push.1 rfl rfl rfl (s_X1_push_0 g σ _ v ?_)
  rw [h1, nI_clamp (by omega), nI_1]
  exact ⟨fun c => absurd c (nI_ge (b := 132) hb (by omega)), fun _ => ⟨inN hb (by omega), rfl, H⟩⟩
theorem c_X1_not {h : Nat} (h1 : σ 121 1 = nI (h + 1)) (hb : h < 132) (Φ : vt_Sg → Prop) (H : Φ (su σ 122 (upd (σ 122) h (if σ 122 h = 0 then 1 else 0)))) : vt_Mv g 1 D_X1_apply [.ref (g.2.1 121), .int 33] σ Φ := by
  refine mV ok_X1_apply.1 rfl rfl rfl (s_X1_apply_0 g σ _ 33 ?_)
  have e : nI (h + 1) - 1 = nI h := nI_pred h
  rw [h1, e, nI_clamp (by omega)]
  refine ⟨fun c => absurd rfl c, fun _ => ⟨fun c => absurd c (nI_nlt (b := 1) (by omega) (by omega)), fun _ => ⟨inN hb (by omega), fun c => ⟨rfl, ?_⟩, fun c => ⟨rfl, ?_⟩⟩⟩⟩
  · rw [if_neg c] at H; exact H
  · rw [if_pos c] at H; exact H
theorem c_X1_bin {h : Nat} (h1 : σ 121 1 = nI (h + 2)) (hb : h + 1 < 132) {s : Int32} (hs : ¬ s = 33) (Φ : vt_Sg → Prop) (H : Φ (su (su σ 121 (upd (σ 121) 1 (nI (h + 1)))) 122 (upd (σ 122) h (jn s (σ 122 h) (σ 122 (h + 1)))))) : vt_Mv g 1 D_X1_apply [.ref (g.2.1 121), .int s] σ Φ := by
  refine mV ok_X1_apply.1 rfl rfl rfl (s_X1_apply_0 g σ _ s ?_)
  have e : nI (h + 2) - 1 = nI (h + 1) := nI_pred (h + 1)
  have e2 : nI (h + 1) - 1 = nI h := nI_pred h
  rw [h1, e, e2, nI_clamp (by omega), nI_clamp (by omega)]
  exact ⟨fun _ => ⟨fun c => absurd c (nI_nlt (b := 2) (by omega) (by omega)), fun _ => ⟨inN (by omega) (by omega), inN hb (by omega), rfl, H⟩⟩, fun c => absurd c hs⟩
/-- the same but for the calculator's cells -/
def Fc (σ τ : vt_Sg) : Prop := ∀ k, k ≠ 121 → k ≠ 122 → τ k = σ k
theorem l_work {nv : Int32 → Int32} {s : Nat} (hs : s < 12) {x3 x4 x6 : Int32} {e : Nat} (he : e ≤ 132) (P : Option Value → vt_Sg → Prop)
    (hv : ∀ τ, Fc σ τ → ∀ i, i < 10 → ∀ Φ : Int32 → vt_Sg → Prop, Φ (nv (namesB.getD i 0)) τ → vt_Mi g 2 D_X1_valueOf [.int (namesB.getD i 0), .ref (g.2.1 116), .int (nI s), .int x4] τ Φ) :
    ∀ (l : List Int32) (i h : Nat) (F : Nat → Int32) (τ : vt_Sg), i + l.length = e → dpt l h = some 1 → h ≤ i → (∀ j, j < l.length → σ (28 + s) (i + j) = l.getD j 0) → Fc σ τ → τ 121 1 = nI h → (∀ j, j < h → τ 122 j = F j) → (∀ τ', Fc σ τ' → P (some (.int (evl nv l F h))) τ') →
      TT g (vt_R 3) 0 0 D_X1_work none 50 [some (.ref (g.2.1 121)), some (.ref (g.2.1 116)), some (.int (nI s)), some (.int x3), some (.int x4), some (.ref (g.2.1 25)), some (.int x6), some (.int (nI e)), some (.int (nI i)), none] [] τ P := by
  intro l
  induction l with
  | nil =>
    intro i h F τ hi hd hh hc hf h1 hF H
    have hi : i = e := hi
    have : h = 1 := by cases hd; rfl
    subst this; subst hi
    refine s_X1_work_50 g τ P _ _ _ _ _ _ ⟨fun _ => ?_, fun c => absurd (nI_le (Nat.le_refl _) (by omega)) c⟩
    have e0 : nI 1 - 1 = nI 0 := nI_pred 0
    rw [h1, e0, nI_clamp (by omega), hF 0 (by omega)]
    exact ⟨fun c => absurd c (by decide), fun _ => ⟨inN (by omega) (by omega), H τ hf⟩⟩
  | cons v l ih =>
    intro i h F τ hi hd hh hc hf h1 hF H
    have hi : i + (l.length + 1) = e := hi
    have hv0 : σ (28 + s) i = v := by have := hc 0 (Nat.succ_pos _); exact this
    have fv : τ (28 + (nI s).toNatClampNeg) (nI i).toNatClampNeg = v := by rw [nI_clamp (by omega), nI_clamp (by omega), hf (28 + s) (by omega) (by omega)]; exact hv0
    have hc' : ∀ j, j < l.length → σ (28 + s) (i + 1 + j) = l.getD j 0 := fun j hj => by
      have := hc (j + 1) (Nat.succ_lt_succ hj)
      rw [show i + 1 + j = i + (j + 1) by omega]
      exact this
    refine s_X1_work_50 g τ P _ _ _ _ _ _ ⟨fun c => absurd c (nI_ge (by omega) (by omega)), fun _ => ?_⟩
    rw [fv, nI_1]
    refine ⟨inN hs (by omega), inN (by omega) (by omega), ?_⟩
    rw [dpt] at hd
    have push : isLf v = true → ∀ w, w = (if ¬ v < 0 then v else nv (-v)) → vt_Mv g 0 D_X1_push [.ref (g.2.1 121), .int w] τ (fun σ14 => TT g (vt_R 3) 0 0 D_X1_work none 50 [some (.ref (g.2.1 121)), some (.ref (g.2.1 116)), some (.int (nI s)), some (.int x3), some (.int x4), some (.ref (g.2.1 25)), some (.int x6), some (.int (nI e)), some (.int (nI (i + 1))), none] [] σ14 P) := by
      intro z w hw
      rw [if_pos z] at hd
      refine c_X1_push h1 (by omega) _ (ih (i + 1) (h + 1) (stp nv v F h) _ (by omega) hd (by omega) hc' (fun k a b => by rw [su_ne a, su_ne b]; exact hf k a b) rfl (fun j hj => ?_) (fun τ' ht => ?_))
      · show upd (τ 122) h w j = _
        unfold stp
        rw [if_pos z]
        by_cases q : j = h
        · subst q; rw [upd_same, upd_same, hw]
        · rw [upd_ne q, upd_ne q]; exact hF j (by omega)
      · have := H τ' ht
        rw [evl, if_pos z] at this
        exact this
    have app : ¬ isLf v = true → vt_Mv g 1 D_X1_apply [.ref (g.2.1 121), .int (-v)] τ (fun σ14 => TT g (vt_R 3) 0 0 D_X1_work none 50 [some (.ref (g.2.1 121)), some (.ref (g.2.1 116)), some (.int (nI s)), some (.int x3), some (.int x4), some (.ref (g.2.1 25)), some (.int x6), some (.int (nI e)), some (.int (nI (i + 1))), none] [] σ14 P) := by
      intro z
      rw [if_neg z] at hd
      by_cases y : v = -33
      · rw [if_pos y] at hd
        by_cases hp : 1 ≤ h
        · rw [if_pos hp] at hd
          obtain ⟨h', rfl⟩ : ∃ h', h = h' + 1 := ⟨h - 1, by omega⟩
          have ev : -v = 33 := by rw [y]; decide
          rw [ev]
          refine c_X1_not h1 (by omega) _ (ih (i + 1) (h' + 1) (stp nv v F (h' + 1)) _ (by omega) hd (by omega) hc' (fun k a b => by rw [su_ne b]; exact hf k a b) h1 (fun j hj => ?_) (fun τ' ht => ?_))
          · show upd (τ 122) h' _ j = _
            unfold stp
            rw [if_neg z, if_pos y, show h' + 1 - 1 = h' by omega]
            by_cases q : j = h'
            · subst q; rw [upd_same, upd_same, hF j (by omega)]
            · rw [upd_ne q, upd_ne q]; exact hF j (by omega)
          · have := H τ' ht
            rw [evl, if_neg z, if_pos y] at this
            exact this
        · rw [if_neg hp] at hd; cases hd
      · rw [if_neg y] at hd
        by_cases x : isSg v = true
        · rw [if_pos x] at hd
          by_cases hp : 2 ≤ h
          · rw [if_pos hp] at hd
            obtain ⟨h', rfl⟩ : ∃ h', h = h' + 2 := ⟨h - 2, by omega⟩
            obtain ⟨q, q1, q2, q3, q4, q5, q6⟩ := sg_ix x y
            refine c_X1_bin h1 (by omega) q5 _ (ih (i + 1) (h' + 1) (stp nv v F (h' + 2)) _ (by omega) (by rw [show h' + 2 - 1 = h' + 1 by omega] at hd; exact hd) (by omega) hc' (fun k a b => by rw [su_ne b, su_ne a]; exact hf k a b) rfl (fun j hj => ?_) (fun τ' ht => ?_))
            · show upd (τ 122) h' _ j = _
              unfold stp
              rw [if_neg z, if_neg y, show h' + 2 - 2 = h' by omega, show h' + 2 - 1 = h' + 1 by omega]
              by_cases w : j = h'
              · subst w; rw [upd_same, upd_same, hF j (by omega), hF (j + 1) (by omega)]
              · rw [upd_ne w, upd_ne w]; exact hF j (by omega)
            · have := H τ' ht
              rw [evl, if_neg z, if_neg y, show h' + 2 - 1 = h' + 1 by omega] at this
              exact this
          · rw [if_neg hp] at hd; cases hd
        · rw [if_neg x] at hd; cases hd
    by_cases z : isLf v = true
    · rcases lf_cases z with ⟨a1, _, _⟩ | ⟨a1, a2, a3, q, q1, _, q3⟩
      · exact ⟨fun c => absurd c a1, fun _ => push z v (if_pos a1).symm⟩
      · refine ⟨fun _ => ⟨fun c => absurd c a2, fun _ => ⟨fun c => absurd c a3, fun _ => ?_⟩⟩, fun c => absurd a1 c⟩
        rw [← q3]
        refine hv τ hf q q1 _ (push z _ ?_)
        rw [if_neg (fun c => c a1), q3]
    · have ng : v < 0 := by
        by_cases y : v = -33
        · rw [y]; decide
        · rw [if_neg z, if_neg y] at hd
          by_cases x : isSg v = true
          · obtain ⟨q, q1, q2, q3, q4, q5, q6⟩ := sg_ix x y; exact q4
          · rw [if_neg x] at hd; cases hd
      refine ⟨fun _ => ⟨fun _ => app z, fun c => ⟨fun _ => app z, fun c2 => ?_⟩⟩, fun c => absurd ng c⟩
      exfalso
      by_cases y : v = -33
      · rw [y] at c; exact c (by decide)
      · rw [if_neg z, if_neg y] at hd
        by_cases x : isSg v = true
        · obtain ⟨q, q1, q2, q3, q4, q5, q6⟩ := sg_ix x y; exact c2 (q6 c)
        · rw [if_neg x] at hd; cases hd
end EVAL
