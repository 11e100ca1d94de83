/-! LETTING THEM FALL: the reference's whole search -/
section FINDFALL3
variable {g : vt_GT} {σ : vt_Sg} {p1 p2 p3 p4 p5 : Int32} {A : Nat → Option Nat} {t nd ns nm nl lv m : Nat} {b : (Nat → Option Nat) × Nat → Bool}
theorem c_X12_findFall (hb : LVs g σ nd ns t b) (hA : inj12 A) (hlt : ∀ s, ns ≤ s → A s = none) (hns : ns ≤ 12) (h2 : σ 169 2 = nI ns) (h0 : σ 169 0 = nI t) (hE : ∀ s, s < ns → (σ 26 s = 0 ↔ ¬ 0 < σ 169 (37 + 8 * s))) {υ : vt_Sg} (w : WM σ A υ) (Φ : Int32 → vt_Sg → Prop)
    (h : ∀ υ', (∀ k, (k < 116 ∨ (122 < k ∧ k < 175 ∧ k ≠ 166)) → υ' k = σ k) → (∀ i, i < (fal b ns 12 A).length → υ' 178 i = nI ((fal b ns 12 A).getD i 0)) → Φ (nI (fal b ns 12 A).length) υ') : vt_Mi g 5 D_X12_findFall [.ref (g.2.1 168)] υ Φ := by
  refine mI ok_X12_findFall.1 rfl rfl rfl (s_X12_findFall_0 g υ _ ?_)
  have key : ∀ n i (A : Nat → Option Nat) (pre : List Nat) υ, i + n = 12 → pre.length = i → stn A 12 ≤ n → inj12 A → (∀ s, ns ≤ s → A s = none) → WM σ A υ → (∀ j, j < i → υ 178 j = nI (pre.getD j 0)) → (∀ υ', (∀ k, (k < 116 ∨ (122 < k ∧ k < 175 ∧ k ≠ 166)) → υ' k = σ k) → (∀ j, j < (pre ++ fal b ns n A).length → υ' 178 j = nI ((pre ++ fal b ns n A).getD j 0)) → Φ (nI (pre ++ fal b ns n A).length) υ') →
      TT g (vt_R 5) 0 0 D_X12_findFall none 4 [some (.ref (g.2.1 168)), some (.int (nI i)), some (.int (nI 0)), none] [] υ (fun v σ' => ∃ r, v = some (Value.int r) ∧ Φ r σ') := by
    intro n
    induction n with
    | zero =>
      intro i A pre υ hi hp hs hA hlt w hg H
      have nob : ∀ s, s < 12 → A s = none := stn_0 12 (by omega)
      refine l_scan (G := υ 178) hb hA hlt hns h2 h0 hE (by omega) (fun s p e => ?_) _ (fun _ υ' w' e8 => ⟨_, rfl, ?_⟩) (fun s e => ?_) ns 0 υ (by omega) w rfl rfl
      · rcases Nat.lt_or_ge s 12 with q | q
        · rw [nob s q] at e; cases e
        · rw [hA.2.2 s q] at e; cases e
      · obtain ⟨_, s1, s2⟩ := fnd_lt _ _ _ e
        have := (hb A hA hlt s (by omega)).1 (nob s (by omega))
        rw [this] at s2; cases s2
      · have H := H υ' w'.1
        rw [show fal b ns 0 A = [] from rfl, List.append_nil, hp] at H
        exact H (fun j hj => by rw [e8]; exact hg j hj)
    | succ n ih =>
      intro i A pre υ hi hp hs hA hlt w hg H
      have fe : fal b ns (n + 1) A = match fnd (fun s => b (A, s)) 0 ns with | none => [] | some s => s :: fal b ns n (wo A s) := rfl
      refine l_scan (G := υ 178) hb hA hlt hns h2 h0 hE (by omega) (fun s p e => by omega) _ (fun e υ' w' e8 => ⟨_, rfl, ?_⟩) (fun s e υ' w' e8 => ?_) ns 0 υ (by omega) w rfl rfl
      · rw [e] at fe
        have fe : fal b ns (n + 1) A = s :: fal b ns n (wo A s) := fe
        obtain ⟨_, s1, s2⟩ := fnd_lt _ _ _ e
        have e2 : (pre ++ [s]) ++ fal b ns n (wo A s) = pre ++ fal b ns (n + 1) A := by rw [fe, List.append_assoc]; rfl
        have hst : stn (wo A s) 12 ≤ n := by
          cases ha : A s with
          | none => have := (hb A hA hlt s (by omega)).1 ha; rw [this] at s2; cases s2
          | some p =>
            have := stn_wo ha 12
            rw [if_pos (by omega)] at this
            omega
        refine ih (i + 1) (wo A s) (pre ++ [s]) _ (by omega) (by rw [List.length_append, hp]; rfl) hst (wo_inj hA s) (wo_lt hlt s) ⟨fun k hk => ?_, fun o ho => ?_⟩ (fun j hj => ?_) (by rw [e2]; exact H)
        · rw [su_ne (by omega), su_ne (by omega)]; exact w'.1 k hk
        · show upd (υ' 175) s (-1) o = _
          by_cases q : o = s
          · subst q; rw [upd_same, wo, if_pos rfl]; rfl
          · rw [upd_ne q, wo, if_neg q]; exact w'.2 o ho
        · show upd (υ' 178) i (nI s) j = _
          by_cases q : j = i
          · subst q
            rw [upd_same, List.getD_eq_getElem?_getD, List.getElem?_append_right (by omega), hp, Nat.sub_self]; rfl
          · rw [upd_ne q, e8, hg j (by omega), List.getD_eq_getElem?_getD, List.getD_eq_getElem?_getD, List.getElem?_append_left (by omega)]
      · rw [e] at fe
        have H := H υ' w'.1
        rw [fe, List.append_nil, hp] at H
        exact H (fun j hj => by rw [e8]; exact hg j hj)
  exact key 12 0 A [] υ rfl rfl (stn_le 12) hA hlt w (fun j hj => absurd hj (by omega)) h
end FINDFALL3
