/-! LETTING THEM FALL: the reference's rounds -/
section FINDFALL2
variable {g : vt_GT} {σ : vt_Sg} {p1 p2 p3 p4 p5 : Int32} {A : Nat → Option Nat} {t nd ns nm nl lv m : Nat} {b : (Nat → Option Nat) × Nat → Bool}
theorem l_scan (hb : LVs g σ nd ns t b) (hA : inj12 A) (hlt : ∀ s, ns ≤ s → A s = none) (hns : ns ≤ 12) (h2 : σ 169 2 = nI ns) (h0 : σ 169 0 = nI t) (hE : ∀ s, s < ns → (σ 26 s = 0 ↔ ¬ 0 < σ 169 (37 + 8 * s))) {i : Nat} (hi12 : i ≤ 12) (hi : ∀ s p, A s = some p → i < 12) {G : Nat → Int32} (P : Option Value → vt_Sg → Prop)
    (hN : fnd (fun s => b (A, s)) 0 ns = none → ∀ υ, WM σ A υ → υ 178 = G → P (some (.int (nI i))) υ)
    (hS : ∀ s, fnd (fun s => b (A, s)) 0 ns = some s → ∀ υ, WM σ A υ → υ 178 = G → TT g (vt_R 5) 0 0 D_X12_findFall none 4 [some (.ref (g.2.1 168)), some (.int (nI (i + 1))), some (.int 0), none] [] (su (su υ 178 (upd (υ 178) i (nI s))) 175 (upd (υ 175) s (-1))) P) :
    ∀ m j υ, j + m = ns → WM σ A υ → υ 178 = G → fnd (fun s => b (A, s)) 0 ns = fnd (fun s => b (A, s)) j m → TT g (vt_R 5) 0 0 D_X12_findFall none 4 [some (.ref (g.2.1 168)), some (.int (nI i)), some (.int (nI j)), none] [] υ P := by
  intro m
  induction m with
  | zero =>
    intro j υ hj w w8 e
    have y2 : υ 169 2 = nI ns := by rw [w.1 169 (by omega)]; exact h2
    exact s_X12_findFall_4 g υ _ _ _ ⟨fun _ => hN e υ w w8, fun c => absurd (by rw [y2]; exact nI_le (by omega) (by omega)) c⟩
  | succ m ih =>
    intro j υ hj w w8 e
    have y9 : υ 169 = σ 169 := w.1 169 (by omega)
    obtain ⟨b1, b2, b3⟩ := hb A hA hlt j (by omega)
    have no : b (A, j) = false → ∀ υ', WM σ A υ' → υ' 178 = G → TT g (vt_R 5) 0 0 D_X12_findFall none 4 [some (.ref (g.2.1 168)), some (.int (nI i)), some (.int (nI j + 1)), none] [] υ' P := by
      intro z υ' w' w8'
      rw [nI_1]
      refine ih (j + 1) υ' (by omega) w' w8' ?_
      rw [e, fnd, if_neg (by show ¬ b (A, j) = true; rw [z]; decide)]
    have e7 : (30 : Int32) + 8 * nI j + 7 = nI (30 + 8 * j + 7) := shop_ix (f := 7)
    refine s_X12_findFall_4 g υ _ _ _ ⟨fun c => absurd (by rw [y9, h2] at c; exact c) (nI_ge (by omega) (by omega)), fun _ => ⟨inN (by omega) (by omega), ?_⟩⟩
    rw [e7, nI_clamp (n := 30 + 8 * j + 7) (by omega), nI_clamp (n := j) (by omega), nI_clamp (n := i) (by omega), w.2 j (by omega), y9, h0, show 30 + 8 * j + 7 = 37 + 8 * j by omega]
    cases ha : A j with
    | none => exact ⟨fun _ => no (b1 ha) υ w w8, fun c => absurd (show opM none < 0 by decide) c⟩
    | some p =>
      refine ⟨fun c => absurd c (nI_pos (by have := hA.2.1 j p ha; omega)), fun _ => ⟨inN (by omega) (by omega), fun c => ?_, fun c => no (b2 ((hE j (by omega)).mpr c)) υ w w8⟩⟩
      obtain ⟨R, r1, _, r3⟩ := b3 p ha (fun q => (hE j (by omega)).mp q c)
      refine r3 υ w _ (fun υ' w' e8 => ⟨fun z => no ?_ υ' w' (e8.trans w8), fun z => ⟨inN (hi j p ha) (by omega), ?_⟩⟩)
      · cases q : b (A, j) with
        | false => rfl
        | true => exact absurd z (r1.mp q)
      · rw [nI_1]
        exact hS j (by rw [e, fnd, if_pos (by show b (A, j) = true; exact r1.mpr z)]) υ' w' (e8.trans w8)
end FINDFALL2
