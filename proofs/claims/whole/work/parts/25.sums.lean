/-! SUMS, and who stands where -/
theorem sm_z {n : Nat} {f : Nat → Int32} (h : ∀ i, i < n → f i = 0) : sm n f = 0 := by
  induction n with
  | zero => rfl
  | succ n ih =>
    show sm n f + f n = 0
    rw [ih (fun i hi => h i (by omega)), h n (by omega)]
    rfl
theorem sm_add {n : Nat} {f h : Nat → Int32} : sm n (fun i => f i + h i) = sm n f + sm n h := by
  induction n with
  | zero => rfl
  | succ n ih =>
    show sm n (fun i => f i + h i) + (f n + h n) = sm n f + f n + (sm n h + h n)
    rw [ih, Int32.add_assoc, Int32.add_assoc]
    congr 1
    rw [← Int32.add_assoc, Int32.add_comm (sm n h) (f n), Int32.add_assoc]
theorem sm_swap {n m : Nat} {f : Nat → Nat → Int32} : sm n (fun i => sm m (fun j => f i j)) = sm m (fun j => sm n (fun i => f i j)) := by
  induction n with
  | zero => exact (sm_z (fun _ _ => rfl)).symm
  | succ n ih =>
    show sm n (fun i => sm m (fun j => f i j)) + sm m (fun j => f n j) = sm m (fun j => sm n (fun i => f i j) + f n j)
    rw [ih, sm_add]
theorem sm_one {n k : Nat} {f : Nat → Int32} (hk : k < n) (h : ∀ i, i < n → i ≠ k → f i = 0) : sm n f = f k := by
  induction n with
  | zero => omega
  | succ n ih =>
    show sm n f + f n = f k
    by_cases e : k = n
    · subst e
      rw [sm_z (fun i hi => h i (by omega) (by omega)), Int32.zero_add]
    · rw [ih (by omega) (fun i hi => h i (by omega)), h n (by omega) (fun q => e q.symm), Int32.add_zero]
theorem sm_more {n m : Nat} {f : Nat → Int32} (hnm : n ≤ m) (h : ∀ i, n ≤ i → i < m → f i = 0) : sm m f = sm n f := by
  induction m with
  | zero => rw [show n = 0 by omega]
  | succ m ih =>
    by_cases e : n = m + 1
    · rw [e]
    · rw [sm_0 (h m (by omega) (by omega))]
      exact ih (by omega) (fun i h1 h2 => h i h1 (by omega))
/-- the shop below i that stands in place p -/
def Bf (A : Nat → Option Nat) : Nat → Nat → Option Nat
  | 0, _ => none
  | i + 1, p => if A i = some p then some i else Bf A i p
/-- at most one in each place -/
def inj12 (A : Nat → Option Nat) : Prop := (∀ s s' p, A s = some p → A s' = some p → s = s') ∧ (∀ s p, A s = some p → p < 12) ∧ ∀ s, 12 ≤ s → A s = none
theorem Bf_some {A : Nat → Option Nat} {i p s : Nat} (h : Bf A i p = some s) : s < i ∧ A s = some p := by
  induction i with
  | zero => cases h
  | succ i ih =>
    rw [Bf] at h
    by_cases e : A i = some p
    · rw [if_pos e] at h; cases h; exact ⟨by omega, e⟩
    · rw [if_neg e] at h
      obtain ⟨a, b⟩ := ih h
      exact ⟨by omega, b⟩
theorem Bf_of {A : Nat → Option Nat} (hA : inj12 A) {i p s : Nat} (hs : s < i) (h : A s = some p) : Bf A i p = some s := by
  induction i with
  | zero => omega
  | succ i ih =>
    rw [Bf]
    by_cases e : A i = some p
    · rw [if_pos e, hA.1 i s p e h]
    · rw [if_neg e]
      refine ih ?_
      by_cases q : s = i
      · subst q; exact absurd h e
      · omega
theorem Bf_none {A : Nat → Option Nat} {i p : Nat} (h : Bf A i p = none) : ∀ s, s < i → A s ≠ some p := by
  induction i with
  | zero => intro s hs; omega
  | succ i ih =>
    rw [Bf] at h
    by_cases e : A i = some p
    · rw [if_pos e] at h; cases h
    · rw [if_neg e] at h
      intro s hs
      by_cases q : s = i
      · subst q; exact e
      · exact ih h s (by omega)
theorem Bf_more {A : Nat → Option Nat} {n m p : Nat} (hnm : n ≤ m) (h : ∀ s, n ≤ s → A s = none) : Bf A m p = Bf A n p := by
  induction m with
  | zero => rw [show n = 0 by omega]
  | succ m ih =>
    by_cases e : n = m + 1
    · rw [e]
    · rw [Bf, if_neg (by rw [h m (by omega)]; exact fun q => by cases q)]
      exact ih (by omega)
/-- a sum over shops is a sum over places -/
theorem sm_places {A : Nat → Option Nat} (hA : inj12 A) (F : Nat → Nat → Int32) :
    sm 12 (fun p => match Bf A 12 p with | none => 0 | some s => F s p) = sm 12 (fun s => match A s with | none => 0 | some p => F s p) := by
  have e1 : sm 12 (fun p => match Bf A 12 p with | none => 0 | some s => F s p) = sm 12 (fun p => sm 12 (fun s => if A s = some p then F s p else 0)) := by
    refine sm_congr (fun p hp => ?_)
    cases hb : Bf A 12 p with
    | none => exact (sm_z (fun s hs => if_neg (Bf_none hb s hs))).symm
    | some s =>
      obtain ⟨h1, h2⟩ := Bf_some hb
      rw [sm_one h1 (fun i hi hne => if_neg (fun q => hne (hA.1 i s p q h2)))]
      exact (if_pos h2).symm
  have e2 : sm 12 (fun s => match A s with | none => 0 | some p => F s p) = sm 12 (fun s => sm 12 (fun p => if A s = some p then F s p else 0)) := by
    refine sm_congr (fun s hs => ?_)
    cases ha : A s with
    | none => exact (sm_z (fun p hp => if_neg (fun q => by cases q))).symm
    | some p =>
      rw [sm_one (hA.2.1 s p ha) (fun i hi hne => if_neg (fun q => hne (by cases q; rfl)))]
      exact (if_pos rfl).symm
  rw [e1, e2, sm_swap]
/-! people -/
def pul (A : Nat → Option Nat) (pu : Nat → Int32) : Int32 := sm 12 (fun s => if (A s).isSome then pu s else 0)
def gof (A : Nat → Option Nat) (pu dq : Nat → Int32) (d s : Nat) : Int32 := if pul A pu = 0 then 0 else if (A s).isSome then dq d * pu s / pul A pu else 0
def cmr (A : Nat → Option Nat) (pu dq : Nat → Int32) (nd s : Nat) : Int32 := sm nd (fun d => gof A pu dq d s)
/-- from a door at f to a shop at q one goes over p -/
def ovr (f q p : Int32) : Bool := (decide (f ≤ p) && decide (p < q)) || (decide (q < p) && decide (p ≤ f))
def psd (A : Nat → Option Nat) (pu dp dq : Nat → Int32) (p : Int32) (d : Nat) : Int32 := sm 12 (fun s => match A s with
  | none => 0
  | some q => if ovr (dp d) (nI q) p then gof A pu dq d s else 0)
def pst (A : Nat → Option Nat) (pu dp dq : Nat → Int32) (nd : Nat) (p : Int32) : Int32 := sm nd (psd A pu dp dq p)
def cnt (A : Nat → Option Nat) (n : Nat) : Int32 := sm n (fun s => if (A s).isSome then 1 else 0)
/-- the crowd's rows are those of the placement A -/
def CR (τ : vt_Sg) (A : Nat → Option Nat) (nd : Nat) : Prop := (∀ s, s < 12 → τ 117 s = opN (A s)) ∧ (∀ p, p < 12 → τ 118 p = opN (Bf A 12 p)) ∧ τ 116 2 = cnt A 12 ∧ (∀ s, s < 12 → τ 119 s = cmr A (τ 10) (τ 6) nd s) ∧ ∀ p, p < 12 → τ 120 p = pst A (τ 10) (τ 5) (τ 6) nd (nI p)
theorem opN_none12 {o : Option Nat} (h : ∀ w, o = some w → w < 12) : opN o = -1000000005 ↔ o = none := opN_none (fun w e => by have := h w e; omega)
theorem opM_neg {o : Option Nat} (h : ∀ w, o = some w → w < 12) : opM o < 0 ↔ o = none := by
  cases o with
  | none => exact ⟨fun _ => rfl, fun _ => by decide⟩
  | some w => exact ⟨fun q => absurd q (nI_pos (by have := h w rfl; omega)), fun q => by cases q⟩
