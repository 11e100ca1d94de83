/-! LETTING THEM FALL: the reference -/
section FINDFALL
variable {g : vt_GT} {σ : vt_Sg} {p1 p2 p3 p4 p5 : Int32} {A : Nat → Option Nat} {t nd ns nm nl lv m : Nat} {b : (Nat → Option Nat) × Nat → Bool}
/-- how many of the first n stand -/
def stn (A : Nat → Option Nat) : Nat → Nat
  | 0 => 0
  | n + 1 => stn A n + (if (A n).isSome then 1 else 0)
theorem stn_le (n : Nat) : stn A n ≤ n := by
  induction n with
  | zero => exact Nat.le_refl _
  | succ n ih =>
    unfold stn
    split <;> omega
theorem stn_0 (n : Nat) (h : stn A n = 0) : ∀ s, s < n → A s = none := by
  induction n with
  | zero => intro s hs; omega
  | succ n ih =>
    intro s hs
    unfold stn at h
    by_cases e : s = n
    · subst e
      cases q : A s with
      | none => rfl
      | some p => rw [q] at h; simp at h
    · exact ih (by omega) s (by omega)
theorem stn_wo {s p : Nat} (ha : A s = some p) (n : Nat) : stn (wo A s) n + (if s < n then 1 else 0) = stn A n := by
  induction n with
  | zero => rfl
  | succ n ih =>
    by_cases e : n = s
    · have w : (wo A s n).isSome = false := by unfold wo; rw [if_pos e]; rfl
      have a : (A n).isSome = true := by rw [e, ha]; rfl
      unfold stn
      rw [w, a]
      have q1 : (if s < n then 1 else 0) = 0 := if_neg (by omega)
      have q2 : (if s < n + 1 then 1 else 0) = 1 := if_pos (by omega)
      rw [q1] at ih
      rw [q2, ← ih]
      rfl
    · have w : wo A s n = A n := if_neg e
      unfold stn
      rw [w, ← ih]
      by_cases q : s < n
      · have q1 : (if s < n then 1 else 0) = 1 := if_pos q
        have q2 : (if s < n + 1 then 1 else 0) = 1 := if_pos (by omega)
        rw [q1, q2]; omega
      · have q1 : (if s < n then 1 else 0) = 0 := if_neg q
        have q2 : (if s < n + 1 then 1 else 0) = 0 := if_neg (by omega)
        rw [q1, q2]; omega
end FINDFALL
