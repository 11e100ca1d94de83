/-! LETTING THEM FALL -/
section FALLS
variable {g : vt_GT} {σ : vt_Sg} {p1 p2 p3 p4 p5 : Int32} {A : Nat → Option Nat} {t nd ns nm nl lv m : Nat} {b : (Nat → Option Nat) × Nat → Bool}
theorem wo_lt (hlt : ∀ s, ns ≤ s → A s = none) (s : Nat) : ∀ s', ns ≤ s' → wo A s s' = none := fun s' hs => by
  unfold wo
  by_cases e : s' = s
  · rw [if_pos e]
  · rw [if_neg e]; exact hlt s' hs
theorem fal_len : ∀ n A, (fal b ns n A).length ≤ n
  | 0, _ => Nat.le_refl _
  | n + 1, A => by
    unfold fal
    cases fnd (fun s => b (A, s)) 0 ns with
    | none => exact Nat.zero_le _
    | some s => exact Nat.succ_le_succ (fal_len n (wo A s))
theorem c_X11_letFall (hb : LVs g σ nd ns t b) (hA : inj12 A) (hlt : ∀ s, ns ≤ s → A s = none) (hns : ns ≤ 12) (h7 : σ 7 7 = nI ns) (ht : σ 1 9 = nI t) (hnd : nd ≤ 4) (h4 : σ 4 2 = nI nd) {τ : vt_Sg} (w : WX σ A nd t τ) (Φ : Int32 → vt_Sg → Prop)
    (h : ∀ τ', (∀ k, (k < 116 ∨ (122 < k ∧ k ≠ 166)) → τ' k = σ k) → (∀ i, i < (fal b ns 12 A).length → τ' 166 i = nI ((fal b ns 12 A).getD i 0)) → Φ (nI (fal b ns 12 A).length) τ') : vt_Mi g 5 D_X11_letFall [.ref (g.2.1 0)] τ Φ := by
  refine mI ok_X11_letFall.1 rfl rfl rfl (s_X11_letFall_0 g τ _ ?_)
  have key : ∀ n i (A : Nat → Option Nat) (pre : List Nat) τ, i + n = 12 → pre.length = i → inj12 A → (∀ s, ns ≤ s → A s = none) → WX σ A nd t τ → (∀ j, j < i → τ 166 j = nI (pre.getD j 0)) → (∀ τ', (∀ k, (k < 116 ∨ (122 < k ∧ k ≠ 166)) → τ' k = σ k) → (∀ j, j < (pre ++ fal b ns n A).length → τ' 166 j = nI ((pre ++ fal b ns n A).getD j 0)) → Φ (nI (pre ++ fal b ns n A).length) τ') →
      TT g (vt_R 5) 0 0 D_X11_letFall none 4 [some (.ref (g.2.1 0)), some (.int (nI i)), some (.int (nI i)), none] [] τ (fun v σ' => ∃ r, v = some (Value.int r) ∧ Φ r σ') := by
    intro n
    induction n with
    | zero =>
      intro i A pre τ hi hp hA hlt w hg H
      have : i = 12 := hi
      subst this
      have H := H τ w.1
      rw [show fal b ns 0 A = [] from rfl, List.append_nil, hp] at H
      exact s_X11_letFall_4 g τ _ _ _ ⟨fun _ => ⟨_, rfl, H hg⟩, fun c => absurd (show (12 : Int32) ≤ 12 from by decide) c⟩
    | succ n ih =>
      intro i A pre τ hi hp hA hlt w hg H
      refine s_X11_letFall_4 g τ _ _ _ ⟨fun c => absurd c (nI_ge (b := 12) (by omega) (by omega)), fun _ => c_X11_first hb hA hlt hns h7 ht w _ (fun τ' w' e6 => ?_)⟩
      have fe : fal b ns (n + 1) A = match fnd (fun s => b (A, s)) 0 ns with | none => [] | some s => s :: fal b ns n (wo A s) := rfl
      cases hf : fnd (fun s => b (A, s)) 0 ns with
      | none =>
        rw [hf] at fe
        refine ⟨fun c => absurd rfl c, fun _ => ⟨_, rfl, ?_⟩⟩
        have H := H τ' w'.1
        rw [fe, List.append_nil, hp] at H
        exact H (fun j hj => by rw [e6]; exact hg j hj)
      | some s =>
        rw [hf] at fe
        have fe : fal b ns (n + 1) A = s :: fal b ns n (wo A s) := fe
        obtain ⟨_, s1, _⟩ := fnd_lt _ _ _ hf
        have hs : s < 12 := by omega
        have en : opN (some s) = nI s := rfl
        rw [en]
        refine ⟨fun _ => c_X2_sendOut (σ := τ') (A := A) (nd := nd) (ns := ns) hs w'.2.1.1 hA hlt hns (by rw [w'.1 7 (by omega)]; exact h7) hnd (by rw [w'.1 4 (by omega)]; exact h4) _ (fun τ2 hl h1 hC => ⟨inN (by omega) (by omega), ?_⟩), fun c => absurd c (nI_neNONE (by omega))⟩
        rw [nI_clamp (by omega), nI_1]
        have e2 : (pre ++ [s]) ++ fal b ns n (wo A s) = pre ++ fal b ns (n + 1) A := by rw [fe, List.append_assoc]; rfl
        refine ih (i + 1) (wo A s) (pre ++ [s]) _ (by omega) (by rw [List.length_append, hp]; rfl) (wo_inj hA s) (wo_lt hlt s) ⟨fun k hk => ?_, ?_, ?_⟩ (fun j hj => ?_) (by rw [e2]; exact H)
        · rw [su_ne (by omega), hl.at k (by omega)]; exact w'.1 k hk
        · exact hC
        · exact h1.trans w'.2.2
        · show upd (τ2 166) i (nI s) j = _
          by_cases q : j = i
          · subst q
            rw [upd_same, List.getD_eq_getElem?_getD, List.getElem?_append_right (by omega), hp, Nat.sub_self]; rfl
          · rw [upd_ne q, hl.at 166 (by omega), e6, hg j (by omega), List.getD_eq_getElem?_getD, List.getD_eq_getElem?_getD, List.getElem?_append_left (by omega)]
  have l := key 12 0 A [] τ rfl rfl hA hlt w (fun j hj => absurd hj (by omega)) h
  exact l
end FALLS
