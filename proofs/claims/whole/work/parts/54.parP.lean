/-! LEASES: the two readers' worlds -/
section PARP
variable {g : vt_GT} {σ τ υ : vt_Sg} {t : Nat → Nat} {L b n p : Nat} {k : TK} {es cs : List Int32}
def wrd (k : TK) : Bool := decide (k.2.2 = 1 ∨ k.2.2 = 2)
/-- the word behind k -/
def nxt (t : Nat → Nat) (L : Nat) (k : TK) : TK := nx t L (wrd k) k.2.1
theorem nxt_ok (h : okT t L k) : okT t L (nxt t L k) ∧ k.2.1 ≤ (nxt t L k).1 := nx_ok (wrd k) h.2.1
theorem getD_app {l : List Int32} {v : Int32} {j : Nat} (h : j < (l ++ [v]).length) : (l ++ [v]).getD j 0 = if j = l.length then v else l.getD j 0 := by
  rw [List.length_append] at h
  have h : j < l.length + 1 := h
  by_cases e : j = l.length
  · rw [if_pos e, List.getD_eq_getElem?_getD, List.getElem?_append_right (by omega), e, Nat.sub_self]; rfl
  · rw [if_neg e, List.getD_eq_getElem?_getD, List.getD_eq_getElem?_getD, List.getElem?_append_left (by omega)]
theorem tokL_c (fr to : Nat) : tokL t fr to = -4 ∨ tokL t fr to = -5 ∨ tokL t fr to = -6 ∨ tokL t fr to = -7 ∨ tokL t fr to = -2 := by
  unfold tokL
  by_cases c : to = fr + 1 ∧ ¬ ixF (nI (t fr)) namesB 0 < 0
  · rw [if_pos c]; exact Or.inl rfl
  · rw [if_neg c]
    by_cases c : wmt t baseB fr to = true
    · rw [if_pos c]; exact Or.inr (Or.inl rfl)
    · rw [if_neg c]
      by_cases c : wmt t turnB fr to = true
      · rw [if_pos c]; exact Or.inr (Or.inr (Or.inl rfl))
      · rw [if_neg c]
        by_cases c : wmt t leaveB fr to = true
        · rw [if_pos c]; exact Or.inr (Or.inr (Or.inr (Or.inl rfl)))
        · rw [if_neg c]; exact Or.inr (Or.inr (Or.inr (Or.inr rfl)))
theorem tok_0 (h : k.2.2 = 0) : tok t k = -1 := if_pos h
theorem tok_1 (h : k.2.2 = 1) : tok t k = tokL t k.1 k.2.1 := by unfold tok; rw [if_neg (by omega), if_pos h]
theorem tok_2 (h : k.2.2 = 2) : tok t k = -3 := by unfold tok; rw [if_neg (by omega), if_neg (by omega), if_pos h]
theorem tok_3 (h : k.2.2 = 3) : tok t k = nI (t k.1) := by unfold tok; rw [if_neg (by omega), if_neg (by omega), if_neg (by omega), if_pos h]
theorem tok_4 (h : k.2.2 = 4) : tok t k = -2 := by unfold tok; rw [if_neg (by omega), if_neg (by omega), if_neg (by omega), if_neg (by omega)]
/-- a word that can be gone on from -/
def use (t : Nat → Nat) (k : TK) : Prop := ¬ (k.2.2 = 1 ∧ tokL t k.1 k.2.1 = -2)
theorem tok_wd (hL : L ≤ 132) (ht : ∀ i, i < L → t i < 256) (h : okT t L k) (u : use t k) : (-3 < tok t k → wrd k = false) ∧ (¬ -3 < tok t k → wrd k = true) := by
  obtain ⟨h1, h2, h3, h4, h5, h6, h7⟩ := h
  rcases (show k.2.2 = 0 ∨ k.2.2 = 1 ∨ k.2.2 = 2 ∨ k.2.2 = 3 ∨ k.2.2 = 4 by omega) with c | c | c | c | c
  · rw [tok_0 c]; unfold wrd; rw [decide_eq_false (by omega)]
    exact ⟨fun _ => rfl, fun z => absurd (by decide) z⟩
  · have w : wrd k = true := decide_eq_true (Or.inl c)
    rw [tok_1 c, w]
    refine ⟨fun z => ?_, fun _ => rfl⟩
    rcases tokL_c (t := t) k.1 k.2.1 with e | e | e | e | e
    · rw [e] at z; exact absurd z (by decide)
    · rw [e] at z; exact absurd z (by decide)
    · rw [e] at z; exact absurd z (by decide)
    · rw [e] at z; exact absurd z (by decide)
    · exact absurd ⟨c, e⟩ u
  · have w : wrd k = true := decide_eq_true (Or.inr c)
    rw [tok_2 c, w]
    exact ⟨fun z => absurd z (by decide), fun _ => rfl⟩
  · have w : wrd k = false := decide_eq_false (by omega)
    rw [tok_3 c, w]
    have := ht k.1 (by have := h5 (by omega); omega)
    exact ⟨fun _ => rfl, fun z => absurd (Int32.lt_of_lt_of_le (show (-3 : Int32) < 0 by decide) (nI_pos' (by omega))) z⟩
  · have w : wrd k = false := decide_eq_false (by omega)
    rw [tok_4 c, w]
    exact ⟨fun _ => rfl, fun z => absurd (by decide) z⟩
theorem tok_m3 (hL : L ≤ 132) (ht : ∀ i, i < L → t i < 256) (h : okT t L k) : tok t k = -3 ↔ k.2.2 = 2 := by
  obtain ⟨h1, h2, h3, h4, h5, h6, h7⟩ := h
  rcases (show k.2.2 = 0 ∨ k.2.2 = 1 ∨ k.2.2 = 2 ∨ k.2.2 = 3 ∨ k.2.2 = 4 by omega) with c | c | c | c | c
  · rw [tok_0 c]; exact ⟨fun z => absurd z (by decide), fun z => by omega⟩
  · rw [tok_1 c]
    refine ⟨fun z => ?_, fun z => by omega⟩
    rcases tokL_c (t := t) k.1 k.2.1 with e | e | e | e | e <;> (rw [e] at z; exact absurd z (by decide))
  · rw [tok_2 c]; exact ⟨fun _ => c, fun _ => rfl⟩
  · rw [tok_3 c]
    have := ht k.1 (by have := h5 (by omega); omega)
    exact ⟨fun z => absurd (by rw [z]; decide) (nI_pos (n := t k.1) (by omega)), fun z => by omega⟩
  · rw [tok_4 c]; exact ⟨fun z => absurd z (by decide), fun z => by omega⟩
theorem tok_m4 (hL : L ≤ 132) (ht : ∀ i, i < L → t i < 256) (h : okT t L k) : tok t k = -4 ↔ (k.2.2 = 1 ∧ tokL t k.1 k.2.1 = -4) := by
  obtain ⟨h1, h2, h3, h4, h5, h6, h7⟩ := h
  rcases (show k.2.2 = 0 ∨ k.2.2 = 1 ∨ k.2.2 = 2 ∨ k.2.2 = 3 ∨ k.2.2 = 4 by omega) with c | c | c | c | c
  · rw [tok_0 c]; exact ⟨fun z => absurd z (by decide), fun z => by omega⟩
  · rw [tok_1 c]; exact ⟨fun z => ⟨c, z⟩, fun z => z.2⟩
  · rw [tok_2 c]; exact ⟨fun z => absurd z (by decide), fun z => by omega⟩
  · rw [tok_3 c]
    have := ht k.1 (by have := h5 (by omega); omega)
    exact ⟨fun z => absurd (by rw [z]; decide) (nI_pos (n := t k.1) (by omega)), fun z => by omega⟩
  · rw [tok_4 c]; exact ⟨fun z => absurd z (by decide), fun z => by omega⟩
/-- a sign, by its byte -/
theorem tok_sg (hL : L ≤ 132) (ht : ∀ i, i < L → t i < 256) (h : okT t L k) {x : Int32} (hx : ¬ x < 0) : tok t k = x ↔ (k.2.2 = 3 ∧ nI (t k.1) = x) := by
  obtain ⟨h1, h2, h3, h4, h5, h6, h7⟩ := h
  rcases (show k.2.2 = 0 ∨ k.2.2 = 1 ∨ k.2.2 = 2 ∨ k.2.2 = 3 ∨ k.2.2 = 4 by omega) with c | c | c | c | c
  · rw [tok_0 c]; exact ⟨fun z => absurd (by rw [← z]; decide) hx, fun z => by omega⟩
  · rw [tok_1 c]
    refine ⟨fun z => ?_, fun z => by omega⟩
    rcases tokL_c (t := t) k.1 k.2.1 with e | e | e | e | e <;> (rw [e] at z; exact absurd (by rw [← z]; decide) hx)
  · rw [tok_2 c]; exact ⟨fun z => absurd (by rw [← z]; decide) hx, fun z => by omega⟩
  · rw [tok_3 c]; exact ⟨fun z => ⟨c, z⟩, fun z => z.2⟩
  · rw [tok_4 c]; exact ⟨fun z => absurd (by rw [← z]; decide) hx, fun z => by omega⟩
/-- the component's reader: word k is read, steps es are told, p leaves -/
def XS (t : Nat → Nat) (L : Nat) (τ : vt_Sg) (k : TK) (es : List Int32) (p : Nat) : Prop := tapX τ t L ∧ (τ 107 6 = nI k.2.1 ∧ τ 107 8 = nI k.1 ∧ τ 107 7 = tok t k) ∧ (k.2.2 = 2 → τ 107 9 = dgv t k.1 (k.2.1 - k.1)) ∧ (k.2.2 = 1 → tokL t k.1 k.2.1 = -4 → τ 107 9 = -(nI (t k.1))) ∧ τ 107 5 = nI es.length ∧ (∀ j, j < es.length → τ 108 j = es.getD j 0) ∧ τ 107 3 = nI p
def FrX (τ τ' : vt_Sg) : Prop := ∀ k, k ≠ 107 → k ≠ 108 → τ' k = τ k
theorem FrX.tr {a b c : vt_Sg} (h : FrX a b) (k : FrX b c) : FrX a c := fun i a1 a2 => (k i a1 a2).trans (h i a1 a2)
theorem FrX.rf (a : vt_Sg) : FrX a a := fun _ _ _ => rfl
theorem XS.leaf (h : XS t L τ k es p) : XS t L (su τ 107 (upd (τ 107) 3 (τ 107 3 + 1))) k es (p + 1) ∧ FrX τ (su τ 107 (upd (τ 107) 3 (τ 107 3 + 1))) := by
  obtain ⟨⟨a1, a2⟩, ⟨a3, a4, a5⟩, a6, a7, a8, a9, a10⟩ := h
  refine ⟨⟨⟨?_, fun i hi => ?_⟩, ⟨?_, ?_, ?_⟩, fun z => ?_, fun z y => ?_, ?_, fun j hj => ?_, ?_⟩, fun i b1 b2 => su_ne b1⟩
  · rw [su_same, upd_ne (by omega)]; exact a1
  · rw [su_ne (by omega)]; exact a2 i hi
  · rw [su_same, upd_ne (by omega)]; exact a3
  · rw [su_same, upd_ne (by omega)]; exact a4
  · rw [su_same, upd_ne (by omega)]; exact a5
  · rw [su_same, upd_ne (by omega)]; exact a6 z
  · rw [su_same, upd_ne (by omega)]; exact a7 z y
  · rw [su_same, upd_ne (by omega)]; exact a8
  · rw [su_ne (by omega)]; exact a9 j hj
  · rw [su_same, upd_same, a10, nI_1]
theorem x_emit (h : XS t L τ k es p) (hl : es.length < 132) {v : Int32} (Φ : vt_Sg → Prop) (H : ∀ τ', FrX τ τ' → XS t L τ' k (es ++ [v]) p → Φ τ') : vt_Mv g 0 D_X8_emit [.ref (g.2.1 107), .int v] τ Φ := by
  obtain ⟨⟨a1, a2⟩, ⟨a3, a4, a5⟩, a6, a7, a8, a9, a10⟩ := h
  refine mV ok_X8_emit.1 rfl rfl rfl (s_X8_emit_0 g τ _ v ?_)
  rw [a8]
  refine ⟨fun c => absurd c (nI_ge (b := 132) hl (by omega)), fun _ => ⟨inN hl (by omega), rfl, H _ (fun i b1 b2 => by rw [su_ne b1, su_ne b2]) ⟨⟨?_, fun i hi => ?_⟩, ⟨?_, ?_, ?_⟩, fun z => ?_, fun z y => ?_, ?_, fun j hj => ?_, ?_⟩⟩⟩
  · rw [su_same, upd_ne (by omega)]; exact a1
  · rw [su_ne (by omega), su_ne (by omega)]; exact a2 i hi
  · rw [su_same, upd_ne (by omega)]; exact a3
  · rw [su_same, upd_ne (by omega)]; exact a4
  · rw [su_same, upd_ne (by omega)]; exact a5
  · rw [su_same, upd_ne (by omega)]; exact a6 z
  · rw [su_same, upd_ne (by omega)]; exact a7 z y
  · rw [su_same, upd_same, nI_1, List.length_append]; rfl
  · rw [su_ne (by omega), su_same, getD_app hj, nI_clamp (by omega)]
    rw [List.length_append] at hj
    have hj : j < es.length + 1 := hj
    by_cases e : j = es.length
    · rw [if_pos e, e, upd_same]
    · rw [if_neg e, upd_ne e]; exact a9 j (by omega)
  · rw [su_same, upd_ne (by omega)]; exact a10
theorem x_adv (hL : L ≤ 132) (ht : ∀ i, i < L → t i < 256) (hk : okT t L k) (u : use t k) (h : XS t L τ k es p) (Φ : vt_Sg → Prop) (H : ∀ τ', FrX τ τ' → XS t L τ' (nxt t L k) es p → Φ τ') : vt_Mv g 8 D_X8_advance [.ref (g.2.1 107)] τ Φ := by
  obtain ⟨⟨a1, a2⟩, ⟨a3, a4, a5⟩, a6, a7, a8, a9, a10⟩ := h
  refine c_X8_advance (w := wrd k) (pos := k.2.1) hL ht ⟨a1, a2⟩ a3 (by rw [a5]; exact tok_wd hL ht hk u) hk.2.1 Φ (fun f b0 b6 b8 b7 b9 b10 => H _ (fun i c1 c2 => su_ne c1) ⟨⟨?_, fun i hi => ?_⟩, ⟨?_, ?_, ?_⟩, fun z => ?_, fun z y => ?_, ?_, fun j hj => ?_, ?_⟩)
  · rw [su_same, b0 0 (by omega) (by omega) (by omega) (by omega)]; exact a1
  · rw [su_ne (by omega)]; exact a2 i hi
  · rw [su_same]; exact b6
  · rw [su_same]; exact b8
  · rw [su_same]; exact b7
  · rw [su_same]; exact b9 z
  · rw [su_same]; exact b10 z y
  · rw [su_same, b0 5 (by omega) (by omega) (by omega) (by omega)]; exact a8
  · rw [su_ne (by omega)]; exact a9 j hj
  · rw [su_same, b0 3 (by omega) (by omega) (by omega) (by omega)]; exact a10
/-- the reference's reader -/
def MS (t : Nat → Nat) (L : Nat) (υ : vt_Sg) (k : TK) (cs : List Int32) (p b n : Nat) : Prop := tapM υ t L ∧ (υ 168 10 = nI k.1 ∧ υ 168 11 = nI k.2.1 ∧ υ 168 12 = nI k.2.2) ∧ (υ 168 13 = 0 ∧ υ 168 14 = nI b ∧ υ 168 15 = nI n) ∧ υ 168 17 = nI cs.length ∧ (∀ j, j < cs.length → υ 176 j = cs.getD j 0) ∧ υ 168 18 = nI p
def FrM (υ υ' : vt_Sg) : Prop := (∀ k, k ≠ 168 → k ≠ 176 → υ' k = υ k) ∧ ∀ j, j < 10 ∨ 18 < j → υ' 168 j = υ 168 j
theorem FrM.tr {a b c : vt_Sg} (h : FrM a b) (k : FrM b c) : FrM a c := ⟨fun i a1 a2 => (k.1 i a1 a2).trans (h.1 i a1 a2), fun j hj => (k.2 j hj).trans (h.2 j hj)⟩
theorem FrM.rf (a : vt_Sg) : FrM a a := ⟨fun _ _ _ => rfl, fun _ _ => rfl⟩
theorem FrM.up {a : vt_Sg} {j : Nat} {x : Int32} (h : 10 ≤ j ∧ j ≤ 18) : FrM a (su a 168 (upd (a 168) j x)) := ⟨fun i a1 a2 => su_ne a1, fun i hi => by rw [su_same, upd_ne (by omega)]⟩
/-- another of the numbers 14, 15, 18 -/
theorem MS.up {j : Nat} {x : Int32} {p' b' n' : Nat} (h : MS t L υ k cs p b n) (hj : j = 14 ∨ j = 15 ∨ j = 18) (h14 : upd (υ 168) j x 14 = nI b') (h15 : upd (υ 168) j x 15 = nI n') (h18 : upd (υ 168) j x 18 = nI p') : MS t L (su υ 168 (upd (υ 168) j x)) k cs p' b' n' := by
  obtain ⟨⟨a1, a2⟩, ⟨a3, a4, a5⟩, ⟨a6, a7, a8⟩, a9, a10, a11⟩ := h
  refine ⟨⟨?_, fun i hi => ?_⟩, ⟨?_, ?_, ?_⟩, ⟨?_, ?_, ?_⟩, ?_, fun i hi => ?_, ?_⟩
  · rw [su_same, upd_ne (by omega)]; exact a1
  · rw [su_ne (by omega)]; exact a2 i hi
  · rw [su_same, upd_ne (by omega)]; exact a3
  · rw [su_same, upd_ne (by omega)]; exact a4
  · rw [su_same, upd_ne (by omega)]; exact a5
  · rw [su_same, upd_ne (by omega)]; exact a6
  · rw [su_same]; exact h14
  · rw [su_same]; exact h15
  · rw [su_same, upd_ne (by omega)]; exact a9
  · rw [su_ne (by omega)]; exact a10 i hi
  · rw [su_same]; exact h18
theorem m_put (h : MS t L υ k cs p b n) (hl : cs.length < 140) {v : Int32} (Φ : vt_Sg → Prop) (H : ∀ υ', FrM υ υ' → MS t L υ' k (cs ++ [v]) p b n → Φ υ') : vt_Mv g 0 D_X12_put [.ref (g.2.1 168), .int v] υ Φ := by
  obtain ⟨⟨a1, a2⟩, ⟨a3, a4, a5⟩, ⟨a6, a7, a8⟩, a9, a10, a11⟩ := h
  refine mV ok_X12_put.1 rfl rfl rfl (s_X12_put_0 g υ _ v ?_)
  rw [a9]
  refine ⟨fun c => absurd a6 c, fun _ => ⟨inN hl (by omega), rfl, H _ ⟨fun i b1 b2 => by rw [su_ne b1, su_ne b2], fun j hj => by rw [su_same, upd_ne (by omega)]⟩ ⟨⟨?_, fun i hi => ?_⟩, ⟨?_, ?_, ?_⟩, ⟨?_, ?_, ?_⟩, ?_, fun j hj => ?_, ?_⟩⟩⟩
  · rw [su_same, upd_ne (by omega)]; exact a1
  · rw [su_ne (by omega), su_ne (by omega)]; exact a2 i hi
  · rw [su_same, upd_ne (by omega)]; exact a3
  · rw [su_same, upd_ne (by omega)]; exact a4
  · rw [su_same, upd_ne (by omega)]; exact a5
  · rw [su_same, upd_ne (by omega)]; exact a6
  · rw [su_same, upd_ne (by omega)]; exact a7
  · rw [su_same, upd_ne (by omega)]; exact a8
  · rw [su_same, upd_same, nI_1, List.length_append]; rfl
  · rw [su_ne (by omega), su_same, getD_app hj, nI_clamp (by omega)]
    rw [List.length_append] at hj
    have hj : j < cs.length + 1 := hj
    by_cases e : j = cs.length
    · rw [if_pos e, e, upd_same]
    · rw [if_neg e, upd_ne e]; exact a10 j (by omega)
  · rw [su_same, upd_ne (by omega)]; exact a11
theorem m_putF (h : ¬ υ 168 13 = 0) {v : Int32} (Φ : vt_Sg → Prop) (H : Φ υ) : vt_Mv g 0 D_X12_put [.ref (g.2.1 168), .int v] υ Φ := mV ok_X12_put.1 rfl rfl rfl (s_X12_put_0 g υ _ v ⟨fun _ => ⟨rfl, H⟩, fun c => absurd c h⟩)
theorem m_next (hL : L ≤ 132) (ht : ∀ i, i < L → t i < 256) (hk : okT t L k) (h : MS t L υ k cs p b n) (Φ : vt_Sg → Prop) (H : ∀ υ', FrM υ υ' → MS t L υ' (nxt t L k) cs p b n → Φ υ') : vt_Mv g 2 D_X12_next [.ref (g.2.1 168)] υ Φ := by
  obtain ⟨⟨a1, a2⟩, ⟨a3, a4, a5⟩, ⟨a6, a7, a8⟩, a9, a10, a11⟩ := h
  refine c_X12_next (pos := k.2.1) (kd := k.2.2) hL ht ⟨a1, a2⟩ hk.2.2.1 a4 a5 hk.2.1 Φ (fun f b0 b10 b11 b12 => H _ ⟨fun i c1 c2 => su_ne c1, fun j hj => by rw [su_same]; exact b0 j (by omega) (by omega) (by omega)⟩ ⟨⟨?_, fun i hi => ?_⟩, ⟨?_, ?_, ?_⟩, ⟨?_, ?_, ?_⟩, ?_, fun j hj => ?_, ?_⟩)
  · rw [su_same, b0 4 (by omega) (by omega) (by omega)]; exact a1
  · rw [su_ne (by omega)]; exact a2 i hi
  · rw [su_same]; exact b10
  · rw [su_same]; exact b11
  · rw [su_same]; exact b12
  · rw [su_same, b0 13 (by omega) (by omega) (by omega)]; exact a6
  · rw [su_same, b0 14 (by omega) (by omega) (by omega)]; exact a7
  · rw [su_same, b0 15 (by omega) (by omega) (by omega)]; exact a8
  · rw [su_same, b0 17 (by omega) (by omega) (by omega)]; exact a9
  · rw [su_ne (by omega)]; exact a10 j hj
  · rw [su_same, b0 18 (by omega) (by omega) (by omega)]; exact a11
theorem m_isSign (hL : L ≤ 132) (hk : okT t L k) (h : MS t L υ k cs p b n) {c : Int32} (Φ : Int32 → vt_Sg → Prop) (h1 : k.2.2 = 3 → nI (t k.1) = c → Φ 1 υ) (h0 : ¬ (k.2.2 = 3 ∧ nI (t k.1) = c) → Φ 0 υ) : vt_Mi g 0 D_X12_isSign [.ref (g.2.1 168), .int c] υ Φ := by
  obtain ⟨⟨a1, a2⟩, ⟨a3, a4, a5⟩, ⟨a6, a7, a8⟩, a9, a10, a11⟩ := h
  obtain ⟨o1, o2, o3, o4, o5, o6, o7⟩ := hk
  refine mI ok_X12_isSign.1 rfl rfl rfl (s_X12_isSign_0 g υ _ c ?_)
  rw [a3, a5]
  refine ⟨fun z => absurd a6 z, fun _ => ⟨fun z => ⟨_, rfl, h0 (fun y => z (by rw [y.1]; rfl))⟩, fun z => ?_⟩⟩
  have z : k.2.2 = 3 := nI_inj (b := 3) z (by omega) (by omega)
  have lt : k.1 < L := by have := o5 (by omega); omega
  refine ⟨inN (by omega) (by omega), ?_⟩
  rw [nI_clamp (by omega), a2 k.1 lt]
  exact ⟨fun y => ⟨_, rfl, h0 (fun x => y x.2)⟩, fun y => ⟨_, rfl, h1 z y⟩⟩
theorem m_isSignF (h : ¬ υ 168 13 = 0) {c : Int32} (Φ : Int32 → vt_Sg → Prop) (H : Φ 0 υ) : vt_Mi g 0 D_X12_isSign [.ref (g.2.1 168), .int c] υ Φ := mI ok_X12_isSign.1 rfl rfl rfl (s_X12_isSign_0 g υ _ c ⟨fun _ => ⟨_, rfl, H⟩, fun z => absurd z h⟩)
/-- the sign j of the reference's ten stands here -/
def SGN (υ : vt_Sg) (j : Nat) : Prop := υ 168 13 = 0 ∧ υ 168 12 = 3 ∧ υ 171 (υ 168 10).toNatClampNeg = signsB.getD j 0
theorem m_signHere (hix : υ 168 13 = 0 → υ 168 12 = 3 → vp_in (υ 168 10) 132) {lo hi : Nat} (hlo : lo ≤ hi) (hhi : hi < 10) (Φ : Int32 → vt_Sg → Prop) (hN : (∀ j, lo ≤ j → j ≤ hi → ¬ SGN υ j) → Φ (-1) υ) (hS : ∀ j, lo ≤ j → j ≤ hi → SGN υ j → Φ (nI j) υ) : vt_Mi g 5 D_X12_signHere [.ref (g.2.1 168), .int (nI lo), .int (nI hi)] υ Φ := by
  refine mI ok_X12_signHere.1 rfl rfl rfl (s_X12_signHere_0 g υ _ (nI lo) (nI hi) ?_)
  have key : ∀ m i (x : Int32), i + m = hi + 1 → lo ≤ i → ((x = -1 ∧ ∀ j, lo ≤ j → j < i → ¬ SGN υ j) ∨ ∃ j, lo ≤ j ∧ j < i ∧ x = nI j ∧ SGN υ j) → TT g (vt_R 5) 0 0 D_X12_signHere none 5 [some (.ref (g.2.1 168)), some (.int (nI lo)), some (.int (nI hi)), some (.int x), some (.int (nI i))] [] υ (fun v σ' => ∃ r, v = some (Value.int r) ∧ Φ r σ') := by
    intro m
    induction m with
    | zero =>
      intro i x hi' hl hx
      refine s_X12_signHere_5 g υ _ _ _ _ _ ⟨fun _ => ⟨_, rfl, ?_⟩, fun c => absurd (nI_lt (by omega) (by omega)) c⟩
      rcases hx with ⟨rfl, hx⟩ | ⟨j, j1, j2, rfl, j3⟩
      · exact hN (fun j a b => hx j a (by omega))
      · exact hS j j1 (by omega) j3
    | succ m ih =>
      intro i x hi' hl hx
      refine s_X12_signHere_5 g υ _ _ _ _ _ ⟨fun c => absurd c (nI_nlt (by omega) (by omega)), fun _ => c_charAt (si := 6) (bs := signsB) rfl (by show i < 10; omega) _ ?_⟩
      rw [nI_1]
      have no : ¬ SGN υ i → TT g (vt_R 5) 0 0 D_X12_signHere none 5 [some (.ref (g.2.1 168)), some (.int (nI lo)), some (.int (nI hi)), some (.int x), some (.int (nI (i + 1)))] [] υ (fun v σ' => ∃ r, v = some (Value.int r) ∧ Φ r σ') := by
        intro z
        refine ih (i + 1) x (by omega) (by omega) ?_
        rcases hx with ⟨e, hx⟩ | ⟨j, j1, j2, j3, j4⟩
        · refine Or.inl ⟨e, fun j a b => ?_⟩
          by_cases y : j = i
          · subst y; exact z
          · exact hx j a (by omega)
        · exact Or.inr ⟨j, j1, by omega, j3, j4⟩
      refine mI ok_X12_isSign.1 rfl rfl rfl (s_X12_isSign_0 g υ _ _ ⟨fun z => ⟨_, rfl, fun _ => no (fun y => z y.1), fun y => absurd rfl y⟩, fun z => ⟨fun y => ⟨_, rfl, fun _ => no (fun w => y w.2.1), fun w => absurd rfl w⟩, fun y => ⟨hix z y, fun w => ⟨_, rfl, fun _ => no (fun v => w v.2.2), fun v => absurd rfl v⟩, fun w => ⟨_, rfl, fun v => absurd v (by decide), fun _ => ?_⟩⟩⟩⟩)
      exact ih (i + 1) (nI i) (by omega) (by omega) (Or.inr ⟨i, hl, by omega, rfl, z, y, w⟩)
  exact key (hi + 1 - lo) lo (-1) (by omega) (Nat.le_refl _) (Or.inl ⟨rfl, fun j a b => absurd a (by omega)⟩)
/-- a sign that is called for -/
theorem m_need1 (hL : L ≤ 132) (ht : ∀ i, i < L → t i < 256) (hk : okT t L k) (h : MS t L υ k cs p b n) {r : Int32} (hr : ¬ r = 0) (Φ : vt_Sg → Prop) (H : ∀ υ', FrM υ υ' → MS t L υ' (nxt t L k) cs p b n → Φ υ') : vt_Mv g 3 D_X12_need [.ref (g.2.1 168), .int r] υ Φ := by
  have h13 : υ 168 13 = 0 := h.2.2.1.1
  refine mV ok_X12_need.1 rfl rfl rfl (s_X12_need_0 g υ _ r ⟨fun c => absurd h13 c, fun _ => ⟨fun _ => ?_, fun c => absurd c hr⟩⟩)
  have e : su υ 168 (upd (υ 168) 13 0) = υ := by
    have : upd (υ 168) 13 0 = υ 168 := by
      funext j
      by_cases z : j = 13
      · subst z; rw [upd_same, h13]
      · rw [upd_ne z]
    rw [this, su_self]
  rw [e]
  exact m_next hL ht hk h _ (fun υ' a b => ⟨rfl, H υ' a b⟩)
/-- the reference has met a fault at x -/
def FT (υ : vt_Sg) (x : Nat) : Prop := υ 168 13 = 1 ∧ υ 168 10 = nI x ∧ ∃ to : Nat, to ≤ 132 ∧ x ≤ to ∧ υ 168 11 = nI to
theorem FT.up {x j : Nat} {y : Int32} (h : FT υ x) (hj : j = 14 ∨ j = 15 ∨ j = 18) : FT (su υ 168 (upd (υ 168) j y)) x := by
  obtain ⟨h1, h2, to, h3, h4, h5⟩ := h
  refine ⟨?_, ?_, to, h3, h4, ?_⟩
  · rw [su_same, upd_ne (by omega)]; exact h1
  · rw [su_same, upd_ne (by omega)]; exact h2
  · rw [su_same, upd_ne (by omega)]; exact h5
theorem FT.mk {x to : Nat} (h10 : υ 168 10 = nI x) (h3 : to ≤ 132) (h4 : x ≤ to) (h11 : υ 168 11 = nI to) : FT (su υ 168 (upd (υ 168) 13 1)) x :=
  ⟨by rw [su_same, upd_same], by rw [su_same, upd_ne (by omega)]; exact h10, to, h3, h4, by rw [su_same, upd_ne (by omega)]; exact h11⟩
theorem MS.ft (hL : L ≤ 132) (hk : okT t L k) (h : MS t L υ k cs p b n) : FT (su υ 168 (upd (υ 168) 13 1)) k.1 := FT.mk h.2.1.1 (to := k.2.1) (by have := hk.2.1; omega) hk.1 h.2.1.2.1
theorem m_need0 {x : Nat} (h : FT (su υ 168 (upd (υ 168) 13 1)) x) {r : Int32} (hr : r = 0 ∨ ¬ υ 168 13 = 0) (Φ : vt_Sg → Prop) (H : ∀ υ', FrM υ υ' → FT υ' x → Φ υ') : vt_Mv g 3 D_X12_need [.ref (g.2.1 168), .int r] υ Φ := by
  have fin : Φ (su υ 168 (upd (υ 168) 13 1)) := H _ (FrM.up (by omega)) h
  exact mV ok_X12_need.1 rfl rfl rfl (s_X12_need_0 g υ _ r ⟨fun _ => ⟨rfl, fin⟩, fun c => ⟨fun c2 => hr.elim (fun z => absurd z c2) (fun z => absurd c z), fun _ => ⟨rfl, fin⟩⟩⟩)
theorem FT.again {x : Nat} (h : FT υ x) : FT (su υ 168 (upd (υ 168) 13 1)) x := by
  obtain ⟨h1, h2, to, h3, h4, h5⟩ := h
  exact FT.mk h2 h3 h4 h5
end PARP
