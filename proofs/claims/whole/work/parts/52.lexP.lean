/-! LEASES: the next word of a text -/
section LEXP
variable {g : vt_GT} {σ τ υ : vt_Sg} {t : Nat → Nat} {L pos : Nat}
def isD (v : Nat) : Bool := decide (48 ≤ v) && decide (v ≤ 57)
def isL (v : Nat) : Bool := decide (97 ≤ v) && decide (v ≤ 122)
def isB (v : Nat) : Bool := decide (v = 32)
/-- a byte as the component has it -/
def sx (v : Nat) : Int32 := (nI v).toInt8.toInt32
theorem sx_255 : ∀ v, v < 256 → (sx v &&& 255) = nI v := by decide +kernel
theorem sx_32 : ∀ v, v < 256 → (sx v = 32 ↔ isB v = true) := by decide +kernel
theorem nI_32 : ∀ v, v < 256 → (nI v = 32 ↔ isB v = true) := by decide +kernel
theorem sx_d : ∀ v, v < 256 → ((¬ sx v < 48 ∧ ¬ 57 < sx v) ↔ isD v = true) := by decide +kernel
theorem nI_d : ∀ v, v < 256 → ((¬ nI v < 48 ∧ ¬ 57 < nI v) ↔ isD v = true) := by decide +kernel
theorem sx_l : ∀ v, v < 256 → ((¬ sx v < 97 ∧ ¬ 122 < sx v) ↔ isL v = true) := by decide +kernel
theorem nI_l' : ∀ v, v < 256 → ((¬ nI v < 97 ∧ ¬ 122 < nI v) ↔ isL v = true) := by decide +kernel
theorem sx_low : ∀ v, v < 128 → sx v = nI v := by decide +kernel
theorem ld_no : ∀ v, v < 256 → isL v = true → isD v = false := by decide +kernel
theorem l_low {v : Nat} (h : isL v = true) : v < 128 := by
  unfold isL at h
  rw [Bool.and_eq_true, decide_eq_true_iff, decide_eq_true_iff] at h
  omega
theorem d_low {v : Nat} (h : isD v = true) : 48 ≤ v ∧ v ≤ 57 := by
  unfold isD at h
  rw [Bool.and_eq_true, decide_eq_true_iff, decide_eq_true_iff] at h
  exact h
/-- the first place from i on, m at most, of which p isn't true -/
def scn (p : Nat → Bool) (t : Nat → Nat) : Nat → Nat → Nat
  | 0, i => i
  | m + 1, i => if p (t i) = true then scn p t m (i + 1) else i
theorem scn_b {p : Nat → Bool} : ∀ m i, i ≤ scn p t m i ∧ scn p t m i ≤ i + m
  | 0, i => ⟨Nat.le_refl _, Nat.le_refl _⟩
  | m + 1, i => by
    rw [scn]
    by_cases c : p (t i) = true
    · rw [if_pos c]; have := scn_b (p := p) m (i + 1); omega
    · rw [if_neg c]; omega
theorem scn_all {p : Nat → Bool} : ∀ m i j, i ≤ j → j < scn p t m i → p (t j) = true
  | 0, i, j, h1, h2 => by rw [scn] at h2; omega
  | m + 1, i, j, h1, h2 => by
    rw [scn] at h2
    by_cases c : p (t i) = true
    · rw [if_pos c] at h2
      by_cases e : j = i
      · subst e; exact c
      · exact scn_all m (i + 1) j (by omega) h2
    · rw [if_neg c] at h2; omega
theorem scn_end {p : Nat → Bool} : ∀ m i, scn p t m i < i + m → ¬ p (t (scn p t m i)) = true
  | 0, i, h => by rw [scn] at h; omega
  | m + 1, i, h => by
    rw [scn] at h ⊢
    by_cases c : p (t i) = true
    · rw [if_pos c] at h ⊢; exact scn_end m (i + 1) (by omega)
    · rw [if_neg c]; exact c
/-- the next word behind pos: from, to, sort (0 the end, 1 letters, 2 digits, 3 a sign, 4 wrong); w: behind letters or digits -/
def nx (t : Nat → Nat) (L : Nat) (w : Bool) (pos : Nat) : Nat × Nat × Nat :=
  if scn isB t (L - pos) pos = L then (L, L, 0) else
  if isL (t (scn isB t (L - pos) pos)) = true then (scn isB t (L - pos) pos, scn isL t (L - scn isB t (L - pos) pos) (scn isB t (L - pos) pos), if w = true ∧ scn isB t (L - pos) pos = pos then 4 else 1) else
  if isD (t (scn isB t (L - pos) pos)) = true then (scn isB t (L - pos) pos, scn isD t (L - scn isB t (L - pos) pos) (scn isB t (L - pos) pos), if (w = true ∧ scn isB t (L - pos) pos = pos) ∨ 5 < scn isD t (L - scn isB t (L - pos) pos) (scn isB t (L - pos) pos) - scn isB t (L - pos) pos then 4 else 2) else
  (scn isB t (L - pos) pos, scn isB t (L - pos) pos + 1, 3)
abbrev TK := Nat × Nat × Nat
/-- a word that stands in the text -/
def okT (t : Nat → Nat) (L : Nat) (k : TK) : Prop := k.1 ≤ k.2.1 ∧ k.2.1 ≤ L ∧ k.2.2 ≤ 4 ∧ (k.2.2 = 0 → k.1 = L) ∧ (¬ k.2.2 = 0 → k.1 < k.2.1) ∧ (k.2.2 = 1 → ∀ j, k.1 ≤ j → j < k.2.1 → isL (t j) = true) ∧ (k.2.2 = 2 → k.2.1 ≤ k.1 + 5 ∧ ∀ j, k.1 ≤ j → j < k.2.1 → isD (t j) = true)
theorem okT_mk {fr to kd : Nat} (h1 : fr ≤ to) (h2 : to ≤ L) (h3 : kd ≤ 4) (h4 : kd = 0 → fr = L) (h5 : ¬ kd = 0 → fr < to) (h6 : kd = 1 → ∀ j, fr ≤ j → j < to → isL (t j) = true) (h7 : kd = 2 → to ≤ fr + 5 ∧ ∀ j, fr ≤ j → j < to → isD (t j) = true) : okT t L (fr, to, kd) := ⟨h1, h2, h3, h4, h5, h6, h7⟩
theorem ite_or {c : Prop} [Decidable c] {a b : Nat} : (if c then a else b) = a ∨ (if c then a else b) = b := by
  by_cases h : c
  · exact Or.inl (if_pos h)
  · exact Or.inr (if_neg h)
theorem nx_ok (w : Bool) (hp : pos ≤ L) : okT t L (nx t L w pos) ∧ pos ≤ (nx t L w pos).1 := by
  have b1 := scn_b (t := t) (p := isB) (L - pos) pos
  unfold nx
  generalize hf : scn isB t (L - pos) pos = fr at *
  by_cases c0 : fr = L
  · rw [if_pos c0]
    exact ⟨okT_mk (Nat.le_refl _) (Nat.le_refl _) (by omega) (fun _ => rfl) (fun h => absurd rfl h) (fun h => by omega) (fun h => by omega), hp⟩
  · rw [if_neg c0]
    by_cases c1 : isL (t fr) = true
    · rw [if_pos c1]
      have b2 := scn_b (t := t) (p := isL) (L - fr) fr
      have al := scn_all (t := t) (p := isL) (L - fr) fr
      have gt : fr < scn isL t (L - fr) fr := by
        obtain ⟨m, hm⟩ : ∃ m, L - fr = m + 1 := ⟨L - fr - 1, by omega⟩
        rw [hm, scn, if_pos c1]
        have := (scn_b (t := t) (p := isL) m (fr + 1)).1
        omega
      generalize scn isL t (L - fr) fr = to at *
      have kd := ite_or (c := w = true ∧ fr = pos) (a := 4) (b := 1)
      generalize (if w = true ∧ fr = pos then 4 else 1) = kk at *
      exact ⟨okT_mk (by omega) (by omega) (by omega) (fun h => by omega) (fun _ => gt) (fun _ => al) (fun h => by omega), by show pos ≤ fr; omega⟩
    · rw [if_neg c1]
      by_cases c2 : isD (t fr) = true
      · rw [if_pos c2]
        have b2 := scn_b (t := t) (p := isD) (L - fr) fr
        have al := scn_all (t := t) (p := isD) (L - fr) fr
        have gt : fr < scn isD t (L - fr) fr := by
          obtain ⟨m, hm⟩ : ∃ m, L - fr = m + 1 := ⟨L - fr - 1, by omega⟩
          rw [hm, scn, if_pos c2]
          have := (scn_b (t := t) (p := isD) m (fr + 1)).1
          omega
        generalize scn isD t (L - fr) fr = to at *
        have kd := ite_or (c := (w = true ∧ fr = pos) ∨ 5 < to - fr) (a := 4) (b := 2)
        have k5 : (if (w = true ∧ fr = pos) ∨ 5 < to - fr then 4 else 2) = 2 → to ≤ fr + 5 := by
          intro h
          by_cases c : (w = true ∧ fr = pos) ∨ 5 < to - fr
          · rw [if_pos c] at h; omega
          · have : ¬ 5 < to - fr := fun z => c (Or.inr z)
            omega
        generalize (if (w = true ∧ fr = pos) ∨ 5 < to - fr then 4 else 2) = kk at *
        exact ⟨okT_mk (by omega) (by omega) (by omega) (fun h => by omega) (fun _ => gt) (fun h => by omega) (fun h => ⟨k5 h, al⟩), by show pos ≤ fr; omega⟩
      · rw [if_neg c2]
        exact ⟨okT_mk (by omega) (by omega) (by omega) (fun h => by omega) (fun _ => by omega) (fun h => by omega) (fun h => by omega), by show pos ≤ fr; omega⟩
/-- the text as the reference has it -/
def tapM (υ : vt_Sg) (t : Nat → Nat) (L : Nat) : Prop := υ 168 4 = nI L ∧ ∀ i, i < L → υ 171 i = nI (t i)
theorem ind_b (w : Bool) : (ind w = 0 → w = false) ∧ (¬ ind w = 0 → w = true) := by
  cases w
  · exact ⟨fun _ => rfl, fun h => absurd rfl h⟩
  · exact ⟨fun h => absurd h (by decide), fun _ => rfl⟩
/-- the end of letters -/
theorem l_nextL {fr : Nat} {w : Bool} (hL : L ≤ 132) (ht : ∀ i, i < L → t i < 256) (hT : tapM υ t L) (hp : pos ≤ L) (Φ : vt_Sg → Prop) : ∀ m i (f : Nat → Int32), i + m = L → fr < i → (∀ j, j ≠ 10 → j ≠ 11 → j ≠ 12 → f j = υ 168 j) → f 10 = nI fr → f 11 = nI i → f 12 = 1 →
    (∀ f : Nat → Int32, (∀ j, j ≠ 10 → j ≠ 11 → j ≠ 12 → f j = υ 168 j) → f 10 = nI fr → f 11 = nI (scn isL t m i) → f 12 = nI (if w = true ∧ fr = pos then 4 else 1) → Φ (su υ 168 f)) →
    TT g (vt_R 2) 0 0 D_X12_next none 143 [some (.ref (g.2.1 168)), some (.int (ind w)), some (.int (nI pos))] [] (su υ 168 f) (fun v σ' => v = none ∧ Φ σ') := by
  intro m
  induction m with
  | zero =>
    intro i f hi hfr f0 f10 f11 f12 H
    have f4 : f 4 = nI L := (f0 4 (by omega) (by omega) (by omega)).trans hT.1
    have iL : i = L := hi
    have nlt : ¬ nI i < nI L := by rw [iL]; exact nI_nlt (Nat.le_refl _) (by omega)
    have pe : nI fr = nI pos ↔ fr = pos := nI_eq (by omega) (by omega)
    have fin0 : ¬ (w = true ∧ fr = pos) → Φ (su υ 168 f) := fun hx => H f f0 f10 f11 (by rw [if_neg hx]; exact f12)
    have fin : w = true ∧ fr = pos → Φ (su υ 168 (upd f 12 4)) := fun hx => H _ (fun j a b c => by rw [upd_ne c]; exact f0 j a b c) (by rw [upd_ne (by omega)]; exact f10) (by rw [upd_ne (by omega)]; exact f11) (by rw [upd_same, if_pos hx]; rfl)
    refine s_X12_next_143 g _ _ _ _ ?_
    rw [su_same, su_su, f12, f11, f10, f4]
    exact ⟨fun c => absurd rfl c, fun _ => ⟨fun c => absurd c nlt, fun c => absurd c.1 nlt, fun _ => ⟨fun _ => ⟨fun c => absurd c (by decide), fun _ => ⟨fun c => ⟨rfl, fin0 (fun z => by rw [(ind_b w).1 c] at z; cases z.1)⟩, fun c => ⟨fun c2 => ⟨rfl, fin ⟨(ind_b w).2 c, pe.mp c2⟩⟩, fun c2 => ⟨rfl, fin0 (fun z => c2 (pe.mpr z.2))⟩⟩⟩⟩, fun c => absurd c (by decide)⟩⟩⟩
  | succ m ih =>
    intro i f hi hfr f0 f10 f11 f12 H
    have f4 : f 4 = nI L := (f0 4 (by omega) (by omega) (by omega)).trans hT.1
    have pe : nI fr = nI pos ↔ fr = pos := nI_eq (by omega) (by omega)
    have lt : nI i < nI L := nI_lt (by omega) (by omega)
    have e71 : υ 171 i = nI (t i) := hT.2 i (by omega)
    have ql := nI_l' (t i) (ht i (by omega))
    have ix : vp_in (nI i) 132 := inN (by omega) (by omega)
    refine s_X12_next_143 g _ _ _ _ ?_
    rw [su_same, su_su, f12, f11, f10, f4, nI_1, nI_clamp (by omega), su_ne (show 171 ≠ 168 by omega), e71]
    refine ⟨fun c => absurd rfl c, fun _ => ⟨fun _ => ix, fun c => ?_, fun cn => ?_⟩⟩
    · rw [scn, if_pos (ql.mp c.2)] at H
      rw [su_su]
      exact ih (i + 1) _ (by omega) (by omega) (fun j a b c => by rw [upd_ne b]; exact f0 j a b c) (by rw [upd_ne (by omega)]; exact f10) upd_same (by rw [upd_ne (by omega)]; exact f12) H
    · rw [scn, if_neg (fun z => cn ⟨lt, ql.mpr z⟩)] at H
      have fin0 : ¬ (w = true ∧ fr = pos) → Φ (su υ 168 f) := fun hx => H f f0 f10 f11 (by rw [if_neg hx]; exact f12)
      have fin : w = true ∧ fr = pos → Φ (su υ 168 (upd f 12 4)) := fun hx => H _ (fun j a b c => by rw [upd_ne c]; exact f0 j a b c) (by rw [upd_ne (by omega)]; exact f10) (by rw [upd_ne (by omega)]; exact f11) (by rw [upd_same, if_pos hx]; rfl)
      exact ⟨fun _ => ⟨fun c => absurd c (by decide), fun _ => ⟨fun c => ⟨rfl, fin0 (fun z => by rw [(ind_b w).1 c] at z; cases z.1)⟩, fun c => ⟨fun c2 => ⟨rfl, fin ⟨(ind_b w).2 c, pe.mp c2⟩⟩, fun c2 => ⟨rfl, fin0 (fun z => c2 (pe.mpr z.2))⟩⟩⟩⟩, fun c => absurd c (by decide)⟩
/-- the end of digits -/
theorem l_nextD {fr : Nat} {w : Bool} (hL : L ≤ 132) (ht : ∀ i, i < L → t i < 256) (hT : tapM υ t L) (hp : pos ≤ L) (Φ : vt_Sg → Prop) : ∀ m i (f : Nat → Int32), i + m = L → fr < i → (∀ j, j ≠ 10 → j ≠ 11 → j ≠ 12 → f j = υ 168 j) → f 10 = nI fr → f 11 = nI i → f 12 = 2 →
    (∀ f : Nat → Int32, (∀ j, j ≠ 10 → j ≠ 11 → j ≠ 12 → f j = υ 168 j) → f 10 = nI fr → f 11 = nI (scn isD t m i) → f 12 = nI (if (w = true ∧ fr = pos) ∨ 5 < scn isD t m i - fr then 4 else 2) → Φ (su υ 168 f)) →
    TT g (vt_R 2) 0 0 D_X12_next none 143 [some (.ref (g.2.1 168)), some (.int (ind w)), some (.int (nI pos))] [] (su υ 168 f) (fun v σ' => v = none ∧ Φ σ') := by
  intro m
  induction m with
  | zero =>
    intro i f hi hfr f0 f10 f11 f12 H
    have f4 : f 4 = nI L := (f0 4 (by omega) (by omega) (by omega)).trans hT.1
    have e0 : scn isD t 0 i = i := rfl
    rw [e0] at H
    have iL : i = L := hi
    have nlt : ¬ nI i < nI L := by rw [iL]; exact nI_nlt (Nat.le_refl _) (by omega)
    have pe : nI fr = nI pos ↔ fr = pos := nI_eq (by omega) (by omega)
    have le : nI i - nI fr ≤ 5 ↔ i - fr ≤ 5 := by rw [pk_sub (by omega)]; exact nI_leI (b := 5) (by omega) (by omega)
    have fin0 : ¬ (w = true ∧ fr = pos) → i - fr ≤ 5 → Φ (su υ 168 f) := fun hx hy => H f f0 f10 f11 (by rw [if_neg (fun z => z.elim hx (fun y => Nat.not_le_of_lt y hy))]; exact f12)
    have fin : (w = true ∧ fr = pos) ∨ 5 < i - fr → Φ (su υ 168 (upd f 12 4)) := fun hx => H _ (fun j a b c => by rw [upd_ne c]; exact f0 j a b c) (by rw [upd_ne (by omega)]; exact f10) (by rw [upd_ne (by omega)]; exact f11) (by rw [upd_same, if_pos hx]; rfl)
    refine s_X12_next_143 g _ _ _ _ ?_
    rw [su_same, su_su, f12, f11, f10, f4]
    exact ⟨fun _ => ⟨fun c => absurd rfl c, fun _ => ⟨fun c => absurd c nlt, fun c => absurd c.1 nlt, fun _ => ⟨fun c => absurd c (by decide), fun _ => ⟨fun c => ⟨fun c3 => ⟨rfl, fin0 (fun z => by rw [(ind_b w).1 c] at z; cases z.1) (le.mp c3)⟩, fun c3 => ⟨rfl, fin (Or.inr (Nat.lt_of_not_le (fun y => c3 (le.mpr y))))⟩⟩, fun c => ⟨fun c2 => ⟨rfl, fin (Or.inl ⟨(ind_b w).2 c, pe.mp c2⟩)⟩, fun c2 => ⟨fun c3 => ⟨rfl, fin0 (fun z => c2 (pe.mpr z.2)) (le.mp c3)⟩, fun c3 => ⟨rfl, fin (Or.inr (Nat.lt_of_not_le (fun y => c3 (le.mpr y))))⟩⟩⟩⟩⟩⟩⟩, fun c => absurd c (by decide)⟩
  | succ m ih =>
    intro i f hi hfr f0 f10 f11 f12 H
    have f4 : f 4 = nI L := (f0 4 (by omega) (by omega) (by omega)).trans hT.1
    have pe : nI fr = nI pos ↔ fr = pos := nI_eq (by omega) (by omega)
    have le : nI i - nI fr ≤ 5 ↔ i - fr ≤ 5 := by rw [pk_sub (by omega)]; exact nI_leI (b := 5) (by omega) (by omega)
    have lt : nI i < nI L := nI_lt (by omega) (by omega)
    have e71 : υ 171 i = nI (t i) := hT.2 i (by omega)
    have ql := nI_d (t i) (ht i (by omega))
    have ix : vp_in (nI i) 132 := inN (by omega) (by omega)
    refine s_X12_next_143 g _ _ _ _ ?_
    rw [su_same, su_su, f12, f11, f10, f4, nI_1, nI_clamp (by omega), su_ne (show 171 ≠ 168 by omega), e71]
    refine ⟨fun _ => ⟨fun c => absurd rfl c, fun _ => ⟨fun _ => ix, fun c => ?_, fun cn => ?_⟩⟩, fun c => absurd c (by decide)⟩
    · rw [scn, if_pos (ql.mp c.2)] at H
      rw [su_su]
      exact ih (i + 1) _ (by omega) (by omega) (fun j a b c => by rw [upd_ne b]; exact f0 j a b c) (by rw [upd_ne (by omega)]; exact f10) upd_same (by rw [upd_ne (by omega)]; exact f12) H
    · rw [scn, if_neg (fun z => cn ⟨lt, ql.mpr z⟩)] at H
      have fin0 : ¬ (w = true ∧ fr = pos) → i - fr ≤ 5 → Φ (su υ 168 f) := fun hx hy => H f f0 f10 f11 (by rw [if_neg (fun z => z.elim hx (fun y => Nat.not_le_of_lt y hy))]; exact f12)
      have fin : (w = true ∧ fr = pos) ∨ 5 < i - fr → Φ (su υ 168 (upd f 12 4)) := fun hx => H _ (fun j a b c => by rw [upd_ne c]; exact f0 j a b c) (by rw [upd_ne (by omega)]; exact f10) (by rw [upd_ne (by omega)]; exact f11) (by rw [upd_same, if_pos hx]; rfl)
      exact ⟨fun c => absurd c (by decide), fun _ => ⟨fun c => ⟨fun c3 => ⟨rfl, fin0 (fun z => by rw [(ind_b w).1 c] at z; cases z.1) (le.mp c3)⟩, fun c3 => ⟨rfl, fin (Or.inr (Nat.lt_of_not_le (fun y => c3 (le.mpr y))))⟩⟩, fun c => ⟨fun c2 => ⟨rfl, fin (Or.inl ⟨(ind_b w).2 c, pe.mp c2⟩)⟩, fun c2 => ⟨fun c3 => ⟨rfl, fin0 (fun z => c2 (pe.mpr z.2)) (le.mp c3)⟩, fun c3 => ⟨rfl, fin (Or.inr (Nat.lt_of_not_le (fun y => c3 (le.mpr y))))⟩⟩⟩⟩⟩
/-- what stands at fr, no blank -/
theorem l_nextK {fr : Nat} {w : Bool} (hL : L ≤ 132) (ht : ∀ i, i < L → t i < 256) (hT : tapM υ t L) (hp : pos ≤ L) (hfr : fr < L) (Φ : vt_Sg → Prop) (f : Nat → Int32) (f0 : ∀ j, j ≠ 10 → f j = υ 168 j) (f10 : f 10 = nI fr) (sk : Int32) (hsk : (isL (t fr) = true ∧ sk = 1) ∨ (¬ isL (t fr) = true ∧ isD (t fr) = true ∧ sk = 2) ∨ (¬ isL (t fr) = true ∧ ¬ isD (t fr) = true ∧ sk = 3))
    (h : ∀ f : Nat → Int32, (∀ j, j ≠ 10 → j ≠ 11 → j ≠ 12 → f j = υ 168 j) → f 10 = nI fr → f 11 = nI (if isL (t fr) = true then scn isL t (L - fr) fr else if isD (t fr) = true then scn isD t (L - fr) fr else fr + 1) → f 12 = nI (if isL (t fr) = true then (if w = true ∧ fr = pos then 4 else 1) else if isD (t fr) = true then (if (w = true ∧ fr = pos) ∨ 5 < scn isD t (L - fr) fr - fr then 4 else 2) else 3) → Φ (su υ 168 f)) :
    TT g (vt_R 2) 0 0 D_X12_next none 143 [some (.ref (g.2.1 168)), some (.int (ind w)), some (.int (nI pos))] [] (su υ 168 (upd (upd (upd f 11 (nI fr)) 12 sk) 11 (nI (fr + 1)))) (fun v σ' => v = none ∧ Φ σ') := by
  have g0 : ∀ j, j ≠ 10 → j ≠ 11 → j ≠ 12 → (upd (upd (upd f 11 (nI fr)) 12 sk) 11 (nI (fr + 1))) j = υ 168 j := fun j a b c => by rw [upd_ne b, upd_ne c, upd_ne b]; exact f0 j a
  have g10 : (upd (upd (upd f 11 (nI fr)) 12 sk) 11 (nI (fr + 1))) 10 = nI fr := by rw [upd_ne (by omega), upd_ne (by omega), upd_ne (by omega)]; exact f10
  have g11 : (upd (upd (upd f 11 (nI fr)) 12 sk) 11 (nI (fr + 1))) 11 = nI (fr + 1) := upd_same
  have g12 : (upd (upd (upd f 11 (nI fr)) 12 sk) 11 (nI (fr + 1))) 12 = sk := by rw [upd_ne (by omega), upd_same]
  generalize upd (upd (upd f 11 (nI fr)) 12 sk) 11 (nI (fr + 1)) = f' at g0 g10 g11 g12
  rcases hsk with ⟨c1, rfl⟩ | ⟨c1, c2, rfl⟩ | ⟨c1, c2, rfl⟩
  · rw [if_pos c1, if_pos c1, show L - fr = (L - fr - 1) + 1 by omega, scn, if_pos c1] at h
    exact l_nextL hL ht hT hp Φ (L - fr - 1) (fr + 1) f' (by omega) (by omega) g0 g10 g11 g12 h
  · rw [if_neg c1, if_neg c1, if_pos c2, if_pos c2, show L - fr = (L - fr - 1) + 1 by omega, scn, if_pos c2] at h
    exact l_nextD hL ht hT hp Φ (L - fr - 1) (fr + 1) f' (by omega) (by omega) g0 g10 g11 g12 h
  · rw [if_neg c1, if_neg c1, if_neg c2, if_neg c2] at h
    refine s_X12_next_143 g _ _ _ _ ?_
    rw [su_same, g12]
    exact ⟨fun _ => ⟨fun _ => ⟨fun _ => ⟨rfl, h f' g0 g10 g11 g12⟩, fun c => absurd rfl c⟩, fun c => absurd c (by decide)⟩, fun c => absurd c (by decide)⟩
/-- the reference's next word -/
theorem l_next {w : Bool} (hL : L ≤ 132) (ht : ∀ i, i < L → t i < 256) (hT : tapM υ t L) (hp : pos ≤ L) (Φ : vt_Sg → Prop)
    (h : ∀ f : Nat → Int32, (∀ j, j ≠ 10 → j ≠ 11 → j ≠ 12 → f j = υ 168 j) → f 10 = nI (nx t L w pos).1 → f 11 = nI (nx t L w pos).2.1 → f 12 = nI (nx t L w pos).2.2 → Φ (su υ 168 f)) :
    ∀ m i (f : Nat → Int32), i + m = L → (∀ j, j ≠ 10 → f j = υ 168 j) → f 10 = nI i → scn isB t m i = scn isB t (L - pos) pos → TT g (vt_R 2) 0 0 D_X12_next none 35 [some (.ref (g.2.1 168)), some (.int (ind w)), some (.int (nI pos))] [] (su υ 168 f) (fun v σ' => v = none ∧ Φ σ') := by
  unfold nx at h
  generalize scn isB t (L - pos) pos = fr at *
  intro m
  induction m with
  | zero =>
    intro i f hi f0 f10 e
    have f4 : f 4 = nI L := (f0 4 (by omega)).trans hT.1
    have iL : i = L := hi
    have e : i = fr := e
    rw [if_pos (show fr = L by omega)] at h
    refine s_X12_next_35 g _ _ _ _ ?_
    rw [su_same, f10, f4, iL]
    refine ⟨fun _ => ⟨fun c => absurd rfl c, fun _ => ⟨rfl, by rw [su_su, su_su]; refine h _ (fun j a b c => by rw [upd_ne c, upd_ne b]; exact f0 j a) (by rw [upd_ne (by omega), upd_ne (by omega), f10, iL]) (by rw [upd_ne (by omega), upd_same]) (by rw [upd_same]; rfl)⟩⟩, fun c => absurd (nI_le (Nat.le_refl _) (by omega)) c⟩
  | succ m ih =>
    intro i f hi f0 f10 e
    have f4 : f 4 = nI L := (f0 4 (by omega)).trans hT.1
    have e71 : υ 171 i = nI (t i) := hT.2 i (by omega)
    have tb := ht i (by omega)
    have ix : vp_in (nI i) 132 := inN (by omega) (by omega)
    have lt : nI i < nI L := nI_lt (by omega) (by omega)
    have ql := nI_l' (t i) tb
    have qd := nI_d (t i) tb
    refine s_X12_next_35 g _ _ _ _ ?_
    rw [su_same, f10, f4, nI_clamp (by omega), su_ne (show 171 ≠ 168 by omega), e71, nI_1]
    refine ⟨fun c => absurd c (nI_ge (by omega) (by omega)), fun _ => ⟨ix, fun cb => ?_, fun cb => ?_⟩⟩
    · rw [scn, if_neg (fun z => cb ((nI_32 (t i) tb).mpr z))] at e
      subst e
      rw [if_neg (show ¬ i = L by omega)] at h
      have K : ∀ sk, (isL (t i) = true ∧ sk = 1) ∨ (¬ isL (t i) = true ∧ isD (t i) = true ∧ sk = 2) ∨ (¬ isL (t i) = true ∧ ¬ isD (t i) = true ∧ sk = 3) → TT g (vt_R 2) 0 0 D_X12_next none 143 [some (.ref (g.2.1 168)), some (.int (ind w)), some (.int (nI pos))] [] (su υ 168 (upd (upd (upd f 11 (nI i)) 12 sk) 11 (nI (i + 1)))) (fun v σ' => v = none ∧ Φ σ') := by
        intro sk hsk
        refine l_nextK hL ht hT hp (show i < L by omega) Φ f f0 f10 sk hsk (fun f' a1 a2 a3 a4 => h f' a1 ?_ ?_ ?_)
        · rw [a2]; by_cases c1 : isL (t i) = true
          · rw [if_pos c1]
          · rw [if_neg c1]; by_cases c2 : isD (t i) = true
            · rw [if_pos c2]
            · rw [if_neg c2]
        · rw [a3]; by_cases c1 : isL (t i) = true
          · rw [if_pos c1, if_pos c1]
          · rw [if_neg c1, if_neg c1]; by_cases c2 : isD (t i) = true
            · rw [if_pos c2, if_pos c2]
            · rw [if_neg c2, if_neg c2]
        · rw [a4]; by_cases c1 : isL (t i) = true
          · rw [if_pos c1, if_pos c1]
          · rw [if_neg c1, if_neg c1]; by_cases c2 : isD (t i) = true
            · rw [if_pos c2, if_pos c2]
            · rw [if_neg c2, if_neg c2]
      exact ⟨fun _ => ⟨fun _ => ix, fun c => by rw [su_su, su_su, su_su]; exact K 1 (Or.inl ⟨ql.mp c.2, rfl⟩), fun c => ⟨fun c2 => by rw [su_su, su_su, su_su]; exact K 2 (Or.inr (Or.inl ⟨fun z => c ⟨lt, ql.mpr z⟩, qd.mp c2.2, rfl⟩)), fun c2 => by rw [su_su, su_su, su_su]; exact K 3 (Or.inr (Or.inr ⟨fun z => c ⟨lt, ql.mpr z⟩, fun z => c2 ⟨lt, qd.mpr z⟩, rfl⟩))⟩⟩, fun c => absurd (nI_inj c (by omega) (by omega)) (by omega)⟩
    · rw [scn, if_pos ((nI_32 (t i) tb).mp cb)] at e
      rw [su_su]
      exact ih (i + 1) _ (by omega) (fun j a => by rw [upd_ne a]; exact f0 j a) upd_same e
theorem c_X12_next (hL : L ≤ 132) (ht : ∀ i, i < L → t i < 256) (hT : tapM υ t L) {kd : Nat} (hk : kd ≤ 4) (h11 : υ 168 11 = nI pos) (h12 : υ 168 12 = nI kd) (hp : pos ≤ L) (Φ : vt_Sg → Prop)
    (h : ∀ f : Nat → Int32, (∀ j, j ≠ 10 → j ≠ 11 → j ≠ 12 → f j = υ 168 j) → f 10 = nI (nx t L (decide (kd = 1 ∨ kd = 2)) pos).1 → f 11 = nI (nx t L (decide (kd = 1 ∨ kd = 2)) pos).2.1 → f 12 = nI (nx t L (decide (kd = 1 ∨ kd = 2)) pos).2.2 → Φ (su υ 168 f)) : vt_Mv g 2 D_X12_next [.ref (g.2.1 168)] υ Φ := by
  refine mV ok_X12_next.1 rfl rfl rfl (s_X12_next_0 g υ _ ?_)
  have start := l_next (g := g) hL ht hT hp Φ h (L - pos) pos (upd (υ 168) 10 (nI pos)) (by omega) (fun j a => upd_ne a) upd_same rfl
  clear h
  rw [h11, h12]
  refine ⟨fun c => ?_, fun c => ⟨fun c2 => ?_, fun c2 => ?_⟩⟩
  · rw [decide_eq_true (Or.inl (nI_inj (b := 1) c (by omega) (by omega)))] at start; exact start
  · rw [decide_eq_false (fun z => z.elim (fun y => c (by rw [y]; rfl)) (fun y => c2 (by rw [y]; rfl)))] at start; exact start
  · rw [decide_eq_true (Or.inr (nI_inj (b := 2) c2 (by omega) (by omega)))] at start; exact start
end LEXP
