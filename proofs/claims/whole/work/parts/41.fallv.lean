/-! WHO LEAVES FIRST -/
section FALLV
variable {g : vt_GT} {σ : vt_Sg} {p1 p2 p3 p4 p5 : Int32} {A : Nat → Option Nat} {t nd ns nm nl lv m : Nat}
/-- b tells of each crowd who leaves it -/
def LVs (g : vt_GT) (σ : vt_Sg) (nd ns t : Nat) (b : (Nat → Option Nat) × Nat → Bool) : Prop := ∀ A : Nat → Option Nat, inj12 A → (∀ s, ns ≤ s → A s = none) → ∀ s, s < ns → (A s = none → b (A, s) = false) ∧ (σ 26 s = 0 → b (A, s) = false) ∧ ∀ p, A s = some p → ¬ σ 26 s = 0 → ∃ R : Int32, (b (A, s) = true ↔ ¬ R = 0) ∧
  (∀ τ, WX σ A nd t τ → ∀ Φ : Int32 → vt_Sg → Prop, (∀ τ', WX σ A nd t τ' → τ' 166 = τ 166 → Φ R τ') → vt_Mi g 3 D_X1_work [.ref (g.2.1 121), .ref (g.2.1 116), .int (nI s), .int 2, .int (nI t)] τ Φ) ∧
  (∀ υ, WM σ A υ → ∀ Φ : Int32 → vt_Sg → Prop, (∀ υ', WM σ A υ' → υ' 178 = υ 178 → Φ R υ') → vt_Mi g 4 D_X12_worked [.ref (g.2.1 168), .int (nI s), .int 2, .int (nI t), .int (nI t)] υ Φ)
theorem LVs_ex (hRel : RelN t nd ns nm nl lv (fun k => σ (1 + k)) (σ 169)) : ∃ b, LVs g σ nd ns t b := by
  have ex : ∀ x : (Nat → Option Nat) × Nat, ∃ v : Bool, inj12 x.1 → (∀ s, ns ≤ s → x.1 s = none) → x.2 < ns → (x.1 x.2 = none → v = false) ∧ (σ 26 x.2 = 0 → v = false) ∧ ∀ p, x.1 x.2 = some p → ¬ σ 26 x.2 = 0 → ∃ R : Int32, (v = true ↔ ¬ R = 0) ∧
      (∀ τ, WX σ x.1 nd t τ → ∀ Φ : Int32 → vt_Sg → Prop, (∀ τ', WX σ x.1 nd t τ' → τ' 166 = τ 166 → Φ R τ') → vt_Mi g 3 D_X1_work [.ref (g.2.1 121), .ref (g.2.1 116), .int (nI x.2), .int 2, .int (nI t)] τ Φ) ∧
      (∀ υ, WM σ x.1 υ → ∀ Φ : Int32 → vt_Sg → Prop, (∀ υ', WM σ x.1 υ' → υ' 178 = υ 178 → Φ R υ') → vt_Mi g 4 D_X12_worked [.ref (g.2.1 168), .int (nI x.2), .int 2, .int (nI t), .int (nI t)] υ Φ) := by
    intro ⟨A, s⟩
    by_cases c : inj12 A ∧ (∀ s, ns ≤ s → A s = none) ∧ s < ns ∧ (∃ p, A s = some p) ∧ ¬ σ 26 s = 0
    · obtain ⟨hA, hlt, hs, ⟨p, ha⟩, hh⟩ := c
      have bt : t ≤ 120 := hRel.1.1.1
      obtain ⟨R, X, Y⟩ := work_val (g := g) (m := t) (k := nI t) hRel hA hlt (nI_pos (by omega)) hs ha hh (j := 2) (by omega)
      refine ⟨decide (¬ R = 0), fun _ _ _ => ⟨fun z => ?_, fun z => absurd z hh, fun p' _ _ => ⟨R, decide_eq_true_iff, X, Y⟩⟩⟩
      have z : A s = none := z
      rw [ha] at z; cases z
    · exact ⟨false, fun h1 h2 h3 => ⟨fun _ => rfl, fun _ => rfl, fun p hp hh => absurd ⟨h1, h2, h3, ⟨p, hp⟩, hh⟩ c⟩⟩
  obtain ⟨b, hb⟩ := Classical.axiomOfChoice ex
  exact ⟨b, fun A hA hlt s hs => hb (A, s) hA hlt hs⟩
/-- the first of m from i on -/
def fnd (b : Nat → Bool) : Nat → Nat → Option Nat
  | _, 0 => none
  | i, m + 1 => if b i then some i else fnd b (i + 1) m
theorem fnd_lt {b : Nat → Bool} : ∀ m i s, fnd b i m = some s → i ≤ s ∧ s < i + m ∧ b s = true
  | 0, i, s, h => by cases h
  | m + 1, i, s, h => by
    rw [fnd] at h
    by_cases c : b i = true
    · rw [if_pos c] at h; cases h; exact ⟨by omega, by omega, c⟩
    · rw [if_neg c] at h
      obtain ⟨a1, a2, a3⟩ := fnd_lt m (i + 1) s h
      exact ⟨by omega, by omega, a3⟩
theorem c_X11_first {b : (Nat → Option Nat) × Nat → Bool} (hb : LVs g σ nd ns t b) (hA : inj12 A) (hlt : ∀ s, ns ≤ s → A s = none) (hns : ns ≤ 12) (h7 : σ 7 7 = nI ns) (ht : σ 1 9 = nI t) {τ : vt_Sg} (w : WX σ A nd t τ) (Φ : Int32 → vt_Sg → Prop) (h : ∀ τ', WX σ A nd t τ' → τ' 166 = τ 166 → Φ (opN (fnd (fun s => b (A, s)) 0 ns)) τ') : vt_Mi g 4 D_X11_firstToLeave [.ref (g.2.1 0)] τ Φ := by
  refine mI ok_X11_firstToLeave.1 rfl rfl rfl (s_X11_firstToLeave_0 g τ _ ?_)
  generalize h166 : τ 166 = G at h
  have key : ∀ m i τ, i + m = ns → WX σ A nd t τ → τ 166 = G → fnd (fun s => b (A, s)) 0 ns = fnd (fun s => b (A, s)) i m → TT g (vt_R 4) 0 0 D_X11_firstToLeave none 2 [some (.ref (g.2.1 0)), some (.int (nI i)), none] [] τ (fun v σ' => ∃ r, v = some (Value.int r) ∧ Φ r σ') := by
    intro m
    induction m with
    | zero =>
      intro i τ hi w w6 e
      have f7 : τ 7 7 = nI ns := by rw [w.1 7 (by omega)]; exact h7
      have := h τ w w6
      rw [e] at this
      exact s_X11_firstToLeave_2 g τ _ _ ⟨fun _ => ⟨_, rfl, this⟩, fun c => absurd (by rw [f7]; exact nI_le (by omega) (by omega)) c⟩
    | succ m ih =>
      intro i τ hi w w6 e
      have f7 : τ 7 7 = nI ns := by rw [w.1 7 (by omega)]; exact h7
      have f1 : τ 1 9 = nI t := by rw [w.1 1 (by omega)]; exact ht
      obtain ⟨b1, b2, b3⟩ := hb A hA hlt i (by omega)
      have no : b (A, i) = false → ∀ τ', WX σ A nd t τ' → τ' 166 = G → TT g (vt_R 4) 0 0 D_X11_firstToLeave none 2 [some (.ref (g.2.1 0)), some (.int (nI i + 1)), none] [] τ' (fun v σ' => ∃ r, v = some (Value.int r) ∧ Φ r σ') := by
        intro z τ' w' w6'
        rw [nI_1]
        refine ih (i + 1) τ' (by omega) w' w6' ?_
        rw [e, fnd, if_neg (by show ¬ b (A, i) = true; rw [z]; decide)]
      refine s_X11_firstToLeave_2 g τ _ _ ⟨fun c => absurd (by rw [f7] at c; exact c) (nI_ge (by omega) (by omega)), fun _ => ⟨inN (by omega) (by omega), ?_⟩⟩
      rw [nI_clamp (by omega), w.2.1.1 i (by omega), w.1 26 (by omega), f1]
      cases ha : A i with
      | none => exact ⟨fun _ => no (b1 ha) τ w w6, fun c => absurd rfl c⟩
      | some p =>
        refine ⟨fun c => absurd c (nI_neNONE (by have := hA.2.1 i p ha; omega)), fun _ => ⟨fun c => no (b2 c) τ w w6, fun c => ?_⟩⟩
        obtain ⟨R, r1, r2, _⟩ := b3 p ha c
        refine r2 τ w _ (fun τ' w' e6 => ⟨fun z => no ?_ τ' w' (e6.trans w6), fun z => ⟨_, rfl, ?_⟩⟩)
        · cases q : b (A, i) with
          | false => rfl
          | true => exact absurd z (r1.mp q)
        · have := h τ' w' (e6.trans w6)
          rw [e, fnd, if_pos (by show b (A, i) = true; exact r1.mpr z)] at this
          exact this
  exact key ns 0 τ (by omega) w h166 rfl
/-- who leaves, one after another -/
def fal (b : (Nat → Option Nat) × Nat → Bool) (ns : Nat) : Nat → (Nat → Option Nat) → List Nat
  | 0, _ => []
  | n + 1, A => match fnd (fun s => b (A, s)) 0 ns with
    | none => []
    | some s => s :: fal b ns n (wo A s)
end FALLV
