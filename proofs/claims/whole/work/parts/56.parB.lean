/-! LEASES: the levels of signs -/
section PARB
variable {g : vt_GT} {σ τ υ : vt_Sg} {t : Nat → Nat} {L b n p l : Nat} {k : TK}
def slo (l : Nat) : Nat := if l = 0 then 0 else if l = 1 then 1 else if l = 2 then 2 else if l = 3 then 5 else 7
def shi (l : Nat) : Nat := if l = 0 then 0 else if l = 1 then 1 else if l = 2 then 4 else if l = 3 then 6 else 8
theorem lv_x : ∀ v, v < 256 → ∀ l, l < 5 → lvl (nI v) = nI l → ∃ j, j < 9 ∧ (slo l ≤ j ∧ j ≤ shi l ∧ signsB.getD j 0 = nI v) := by decide +kernel
theorem lv_m : ∀ j, j < 9 → ∀ l, l < 5 → slo l ≤ j → j ≤ shi l → lvl (signsB.getD j 0) = nI l := by decide +kernel
theorem sh_9 : ∀ l, l < 5 → slo l ≤ shi l ∧ shi l < 9 := by decide +kernel
theorem lv_neg : ∀ l, l < 5 → ¬ lvl (-1) = nI l ∧ ¬ lvl (-2) = nI l ∧ ¬ lvl (-3) = nI l ∧ ¬ lvl (-4) = nI l ∧ ¬ lvl (-5) = nI l ∧ ¬ lvl (-6) = nI l ∧ ¬ lvl (-7) = nI l := by decide +kernel
theorem lv_k (hL : L ≤ 132) (ht : ∀ i, i < L → t i < 256) (hk : okT t L k) (hl : l < 5) (h : lvl (tok t k) = nI l) : k.2.2 = 3 := by
  obtain ⟨n1, n2, n3, n4, n5, n6, n7⟩ := lv_neg l hl
  have o3 := hk.2.2.1
  rcases (show k.2.2 = 0 ∨ k.2.2 = 1 ∨ k.2.2 = 2 ∨ k.2.2 = 3 ∨ k.2.2 = 4 by omega) with c | c | c | c | c
  · rw [tok_0 c] at h; exact absurd h n1
  · rw [tok_1 c] at h
    rcases tokL_c (t := t) k.1 k.2.1 with e | e | e | e | e
    · rw [e] at h; exact absurd h n4
    · rw [e] at h; exact absurd h n5
    · rw [e] at h; exact absurd h n6
    · rw [e] at h; exact absurd h n7
    · rw [e] at h; exact absurd h n2
  · rw [tok_2 c] at h; exact absurd h n3
  · exact c
  · rw [tok_4 c] at h; exact absurd h n2
theorem MS.sgn (hL : L ≤ 132) (hk : okT t L k) {cs : List Int32} (h : MS t L υ k cs p b n) : (υ 168 13 = 0 → υ 168 12 = 3 → vp_in (υ 168 10) 132) ∧ ∀ j, SGN υ j ↔ (k.2.2 = 3 ∧ nI (t k.1) = signsB.getD j 0) := by
  obtain ⟨⟨a1, a2⟩, ⟨a3, a4, a5⟩, ⟨a6, a7, a8⟩, a9, a10, a11⟩ := h
  obtain ⟨o1, o2, o3, o4, o5, o6, o7⟩ := hk
  have c3 : υ 168 12 = 3 ↔ k.2.2 = 3 := by rw [a5]; exact ⟨fun z => nI_inj (b := 3) z (by omega) (by omega), fun z => by rw [z]; rfl⟩
  have lt : k.2.2 = 3 → k.1 < L := fun z => by have := o5 (by omega); omega
  refine ⟨fun _ z => ?_, fun j => ?_⟩
  · have := lt (c3.mp z)
    rw [a3]; exact inN (by omega) (by omega)
  · unfold SGN
    constructor
    · rintro ⟨_, z, y⟩
      have q := lt (c3.mp z)
      rw [a3, nI_clamp (by omega), a2 k.1 q] at y
      exact ⟨c3.mp z, y⟩
    · rintro ⟨z, y⟩
      have q := lt z
      rw [a3, nI_clamp (by omega), a2 k.1 q]
      exact ⟨a6, c3.mpr z, y⟩
/-- a sign of level l and what it joins, or nothing -/
theorem opstep (hL : L ≤ 132) (ht : ∀ i, i < L → t i < 256) (hl : l < 5) (hk : okT t L k) {X Xs Xn : vt_Sg → (Int32 → vt_Sg → Prop) → Prop} {M Ms Mn : vt_Sg → (vt_Sg → Prop) → Prop}
    (SUB : ∀ k1, okT t L k1 → k.1 < k1.1 → PA t L Xs Ms k1 b n) (NEXT : ∀ k1, okT t L k1 → k.1 < k1.1 → PL t L Xn Mn k1 b n)
    (xN : ∀ τ Φ, ¬ lvl (τ 107 7) = nI l → Φ 1 τ → X τ Φ)
    (xS : ∀ τ Φ, k.1 < L → lvl (τ 107 7) = nI l → vt_Mv g 8 D_X8_advance [.ref (g.2.1 107)] τ (fun τ3 => Xs τ3 (fun r τ4 => (¬ r = 0 → vt_Mv g 0 D_X8_emit [.ref (g.2.1 107), .int (-(τ 107 7))] τ4 (fun τ7 => Xn τ7 Φ)) ∧ (r = 0 → Φ 0 τ4))) → X τ Φ)
    (mR : ∀ υ Φ, (υ 168 13 = 0 → υ 168 12 = 3 → vp_in (υ 168 10) 132) → ((∀ j, slo l ≤ j → j ≤ shi l → ¬ SGN υ j) → Φ υ) → (∀ j, slo l ≤ j → j ≤ shi l → SGN υ j → vt_Mv g 2 D_X12_next [.ref (g.2.1 168)] υ (fun υ2 => Ms υ2 (fun υ3 => vt_Mv g 0 D_X12_put [.ref (g.2.1 168), .int (200000 + nI j)] υ3 (fun υ4 => Mn υ4 Φ)))) → M υ Φ)
    (mF : ∀ υ Φ, υ 168 13 = 1 → Φ υ → Mn υ Φ) : PL t L X M k b n := by
  obtain ⟨s1, s2⟩ := sh_9 l hl
  have kL : k.1 ≤ L := by have := hk.1; have := hk.2.1; omega
  by_cases c : lvl (tok t k) = nI l
  · have c3 := lv_k hL ht hk hl c
    have lt := hk.2.2.2.2.1 (by omega)
    have kL' : k.1 < L := by have := hk.2.1; omega
    obtain ⟨n1, n2⟩ := nxt_ok hk
    obtain ⟨ok1, k1, e1, kk1, h1, h2, h3, h4⟩ := SUB _ n1 (by omega)
    cases z1 : ok1 with
    | false =>
      refine ⟨false, k1, [], 0, fun y => (by cases y), h2, ?_, ?_⟩
      · intro τ es p hX he Φ H
        have t7 : τ 107 7 = tok t k := hX.2.1.2.2
        refine xS τ Φ kL' (by rw [t7]; exact c) (x_adv hL ht hk (fun z => by omega) hX _ (fun τ1 g1 X1 => h3 τ1 es p X1 (by omega) _ (fun τ2 g2 _ f2 => ?_)))
        rw [z1]
        exact ⟨fun y => absurd rfl y, fun _ => H τ2 (g1.tr g2) (fun y => (by cases y)) (fun _ => f2 z1)⟩
      · intro υ cs p hM hc Φ H
        obtain ⟨v1, v2⟩ := hM.sgn hL hk
        refine mR υ Φ v1 (fun no => ?_) (fun j a1 a2 sg => m_next hL ht hk hM _ (fun υ1 g1 M1 => h4 υ1 cs p M1 (by omega) _ (fun υ2 g2 _ f2 => ?_)))
        · exfalso
          rw [tok_3 c3] at c
          obtain ⟨j, _, j2, j3, j4⟩ := lv_x (t k.1) (ht _ kL') l hl c
          exact no j j2 j3 ((v2 j).mpr ⟨c3, j4.symm⟩)
        · obtain ⟨w1, w2⟩ := f2 z1
          exact m_putF (by rw [w1]; decide) _ (mF υ2 Φ w1 (H υ2 (g1.tr g2) (fun y => (by cases y)) (fun _ => ⟨w1, w2⟩)))
    | true =>
      obtain ⟨q1, q2, q3, q4, q5⟩ := h1 z1
      obtain ⟨ok2, k2, e2, kk2, i1, i2, i3, i4⟩ := NEXT k1 q1 (by omega)
      have k1L : k1.1 ≤ L := by have := q1.1; have := q1.2.1; omega
      refine ⟨ok2, k2, e1 ++ (-(nI (t k.1)) :: e2), kk1 + kk2, fun z2 => ?_, i2, ?_, ?_⟩
      · obtain ⟨r1, r2, r3, r4⟩ := i1 z2
        refine ⟨r1, ?_, ?_, fun rest d => ?_⟩
        · rw [List.length_append, List.length_cons]; omega
        · rw [List.length_append, List.length_cons]; omega
        · rw [tok_3 c3] at c
          obtain ⟨j, j1, j2, j3, j4⟩ := lv_x (t k.1) (ht _ kL') l hl c
          rw [List.append_assoc, List.cons_append, ← j4, wf_sg q5 j1, r4]
      · intro τ es p hX he Φ H
        have t7 : τ 107 7 = tok t k := hX.2.1.2.2
        refine xS τ Φ kL' (by rw [t7]; exact c) (x_adv hL ht hk (fun z => by omega) hX _ (fun τ1 g1 X1 => h3 τ1 es p X1 (by omega) _ (fun τ2 g2 t2 _ => ?_)))
        rw [z1, t7, tok_3 c3]
        refine ⟨fun _ => x_emit (t2 z1) (by rw [List.length_append]; omega) _ (fun τ3 g3 X3 => i3 τ3 _ _ X3 (by rw [List.length_append, List.length_append]; show es.length + e1.length + 1 ≤ k1.1; omega) Φ (fun τ4 g4 t4 f4 => H τ4 (g1.tr (g2.tr (g3.tr g4))) (fun z2 => ?_) f4)), fun y => absurd y (by decide)⟩
        have := t4 z2
        rw [List.append_assoc, List.append_assoc] at this
        rw [← Nat.add_assoc]
        exact this
      · intro υ cs p hM hc Φ H
        obtain ⟨v1, v2⟩ := hM.sgn hL hk
        refine mR υ Φ v1 (fun no => ?_) (fun j a1 a2 sg => m_next hL ht hk hM _ (fun υ1 g1 M1 => h4 υ1 cs p M1 (by omega) _ (fun υ2 g2 t2 _ => ?_)))
        · exfalso
          rw [tok_3 c3] at c
          obtain ⟨j, _, j2, j3, j4⟩ := lv_x (t k.1) (ht _ kL') l hl c
          exact no j j2 j3 ((v2 j).mpr ⟨c3, j4.symm⟩)
        · have ej := ((v2 j).mp sg).2
          refine m_put (t2 z1) (by rw [List.length_append, List.length_map]; omega) _ (fun υ3 g3 M3 => i4 υ3 _ _ M3 (by rw [List.length_append, List.length_append, List.length_map]; show cs.length + e1.length + 1 ≤ k1.1 + 3; omega) Φ (fun υ4 g4 t4 f4 => H υ4 (g1.tr (g2.tr (g3.tr g4))) (fun z2 => ?_) f4))
          have := t4 z2
          rw [List.append_assoc, List.append_assoc] at this
          rw [← Nat.add_assoc, List.map_append, List.map_cons, ej, tr_sg j (by omega)]
          exact this
  · refine ⟨true, k, [], 0, fun _ => ⟨hk, by show 0 + k.1 ≤ k.1; omega, Nat.le_refl _, fun rest d => rfl⟩, kL, ?_, ?_⟩
    · intro τ es p hX he Φ H
      have t7 : τ 107 7 = tok t k := hX.2.1.2.2
      exact xN τ Φ (by rw [t7]; exact c) (H τ (FrX.rf τ) (fun _ => by rw [List.append_nil]; exact hX) (fun z => (by cases z)))
    · intro υ cs p hM hc Φ H
      obtain ⟨v1, v2⟩ := hM.sgn hL hk
      refine mR υ Φ v1 (fun _ => H υ (FrM.rf υ) (fun _ => by rw [List.map_nil, List.append_nil]; exact hM) (fun z => (by cases z))) (fun j a1 a2 sg => ?_)
      exfalso
      obtain ⟨c3, ej⟩ := (v2 j).mp sg
      rw [tok_3 c3, ej] at c
      exact c (lv_m j (by omega) l hl a1 a2)
/-- a part and what follows it -/
theorem exprstep {X Xs Xl : vt_Sg → (Int32 → vt_Sg → Prop) → Prop} {M Ms Ml : vt_Sg → (vt_Sg → Prop) → Prop} (SUB : PA t L Xs Ms k b n) (LOOP : ∀ k1, okT t L k1 → k.1 ≤ k1.1 → PL t L Xl Ml k1 b n)
    (xR : ∀ τ Φ, Xs τ (fun r τ2 => (¬ r = 0 → Xl τ2 Φ) ∧ (r = 0 → Φ 0 τ2)) → X τ Φ) (mR : ∀ υ Φ, Ms υ (fun υ1 => Ml υ1 Φ) → M υ Φ) (mF : ∀ υ Φ, υ 168 13 = 1 → Φ υ → Ml υ Φ) : PA t L X M k b n := by
  obtain ⟨ok1, k1, e1, kk1, h1, h2, h3, h4⟩ := SUB
  cases z1 : ok1 with
  | false =>
    refine ⟨false, k1, [], 0, fun y => (by cases y), h2, ?_, ?_⟩
    · intro τ es p hX he Φ H
      refine xR τ Φ (h3 τ es p hX he _ (fun τ2 g2 _ f2 => ?_))
      rw [z1]
      exact ⟨fun y => absurd rfl y, fun _ => H τ2 g2 (fun y => (by cases y)) (fun _ => f2 z1)⟩
    · intro υ cs p hM hc Φ H
      refine mR υ Φ (h4 υ cs p hM hc _ (fun υ2 g2 _ f2 => ?_))
      obtain ⟨w1, w2⟩ := f2 z1
      exact mF υ2 Φ w1 (H υ2 g2 (fun y => (by cases y)) (fun _ => ⟨w1, w2⟩))
  | true =>
    obtain ⟨q1, q2, q3, q4, q5⟩ := h1 z1
    obtain ⟨ok2, k2, e2, kk2, i1, i2, i3, i4⟩ := LOOP k1 q1 (by omega)
    refine ⟨ok2, k2, e1 ++ e2, kk1 + kk2, fun z2 => ?_, i2, ?_, ?_⟩
    · obtain ⟨r1, r2, r3, r4⟩ := i1 z2
      refine ⟨r1, ?_, ?_, by omega, fun rest d => ?_⟩
      · rw [List.length_append]; omega
      · rw [List.length_append]; omega
      · rw [List.append_assoc, q5, r4]
    · intro τ es p hX he Φ H
      refine xR τ Φ (h3 τ es p hX he _ (fun τ2 g2 t2 _ => ?_))
      rw [z1]
      refine ⟨fun _ => i3 τ2 _ _ (t2 z1) (by rw [List.length_append]; omega) Φ (fun τ4 g4 t4 f4 => H τ4 (g2.tr g4) (fun z2 => ?_) f4), fun y => absurd y (by decide)⟩
      have := t4 z2
      rw [List.append_assoc] at this
      rw [← Nat.add_assoc]
      exact this
    · intro υ cs p hM hc Φ H
      refine mR υ Φ (h4 υ cs p hM hc _ (fun υ2 g2 t2 _ => i4 υ2 _ _ (t2 z1) (by rw [List.length_append, List.length_map]; omega) Φ (fun υ4 g4 t4 f4 => H υ4 (g2.tr g4) (fun z2 => ?_) f4)))
      have := t4 z2
      rw [List.append_assoc, ← List.map_append] at this
      rw [← Nat.add_assoc]
      exact this
/-- the component's loop of level l, i times gone through, mo at most -/
abbrev XL (g : vt_GT) (l b n : Nat) (mo : Int32) (i : Nat) : vt_Sg → (Int32 → vt_Sg → Prop) → Prop := fun τ Φ => ∀ d, bM b n + (6 - l) ≤ d + 1 → TT g (vt_R (d + 1)) 0 0 D_X8_expression none 43 [some (.ref (g.2.1 107)), some (.int (nI l)), some (.int (nI b)), some (.int (nI n)), some (.int mo), some (.int (nI i)), none] [] τ (fun v σ' => ∃ r, v = some (Value.int r) ∧ Φ r σ')
theorem bM_9 {d : Nat} (hl : l < 6) (hd : bM b n + (6 - l) ≤ d + 1) : 9 ≤ d ∧ bM b n + (6 - (l + 1)) ≤ d := by unfold bM at *; omega
theorem xl_N {mo : Int32} {i : Nat} (hl : l < 5) (Φ : Int32 → vt_Sg → Prop) (h : ¬ lvl (τ 107 7) = nI l ∨ mo ≤ nI i) (H : Φ 1 τ) : XL g l b n mo i τ Φ := fun d hd =>
  s_X8_expression_43 g τ _ d (bM_9 (by omega) hd).1 _ _ _ _ _ ⟨fun _ => ⟨_, rfl, H⟩, fun c => ⟨fun _ => ⟨_, rfl, H⟩, fun c2 => h.elim (fun z => absurd c2 z) (fun z => absurd z c)⟩⟩
theorem xl_S {mo : Int32} {i : Nat} (hl : l < 5) (Φ : Int32 → vt_Sg → Prop) (hi : ¬ mo ≤ nI i) (h : lvl (τ 107 7) = nI l) (H : vt_Mv g 8 D_X8_advance [.ref (g.2.1 107)] τ (fun τ3 => XE g (l + 1) b n τ3 (fun r τ4 => (¬ r = 0 → vt_Mv g 0 D_X8_emit [.ref (g.2.1 107), .int (-(τ 107 7))] τ4 (fun τ7 => XL g l b n mo (i + 1) τ7 Φ)) ∧ (r = 0 → Φ 0 τ4)))) : XL g l b n mo i τ Φ := fun d hd => by
  obtain ⟨d1, d2⟩ := bM_9 (by omega) hd
  refine s_X8_expression_43 g τ _ d d1 _ _ _ _ _ ⟨fun c => absurd c hi, fun _ => ⟨fun c => absurd h c, fun _ => H.mono (fun τ3 h3 => ?_)⟩⟩
  rw [nI_1, nI_1]
  exact vt_Mi.mono (h3 d d2) (fun r τ4 h4 => ⟨fun z => (h4.1 z).mono (fun τ7 h7 => h7 d hd), fun z => ⟨_, rfl, h4.2 z⟩⟩)
theorem xe_R {mo : Int32} (hl : l < 5) (hmo : mo = if l = 2 then 1 else 132) (Φ : Int32 → vt_Sg → Prop) (H : XE g (l + 1) b n τ (fun r τ2 => (¬ r = 0 → XL g l b n mo 0 τ2 Φ) ∧ (r = 0 → Φ 0 τ2))) : XE g l b n τ Φ := fun d hd => by
  obtain ⟨d, rfl⟩ : ∃ d', d = d' + 1 := ⟨d - 1, by unfold bM at hd; omega⟩
  obtain ⟨d1, d2⟩ := bM_9 (by omega) hd
  refine mI ok_X8_expression.1 rfl rfl rfl (s_X8_expression_0 g τ _ d d1 (nI l) (nI b) (nI n) ⟨fun _ => ?_, fun c => absurd (nI_le (b := 4) (by omega) (by omega)) c⟩)
  rw [nI_1]
  refine vt_Mi.mono (H d d2) (fun r τ4 h4 => ⟨fun z => ⟨fun y => ?_, fun y => ?_⟩, fun z => ⟨_, rfl, h4.2 z⟩⟩)
  · have := h4.1 z d hd
    rw [hmo, if_neg (fun w => y (by rw [w]; rfl))] at this
    exact this
  · have := h4.1 z d hd
    rw [hmo, if_pos (nI_inj (b := 2) y (by omega) (by omega))] at this
    exact this
/-- the component's and the reference's loops of one level -/
theorem loop_all (hL : L ≤ 132) (ht : ∀ i, i < L → t i < 256) (hl : l < 5) {Ml : vt_Sg → (vt_Sg → Prop) → Prop} (SUB : ∀ k, okT t L k → PA t L (XE g (l + 1) b n) (ME g (l + 1) b n) k b n)
    (mR : ∀ υ Φ, (υ 168 13 = 0 → υ 168 12 = 3 → vp_in (υ 168 10) 132) → ((∀ j, slo l ≤ j → j ≤ shi l → ¬ SGN υ j) → Φ υ) → (∀ j, slo l ≤ j → j ≤ shi l → SGN υ j → vt_Mv g 2 D_X12_next [.ref (g.2.1 168)] υ (fun υ2 => ME g (l + 1) b n υ2 (fun υ3 => vt_Mv g 0 D_X12_put [.ref (g.2.1 168), .int (200000 + nI j)] υ3 (fun υ4 => Ml υ4 Φ)))) → Ml υ Φ) :
    ∀ m (k : TK) (i : Nat), okT t L k → k.1 + m = L → i ≤ k.1 → PL t L (XL g l b n 132 i) Ml k b n := by
  intro m
  induction m using Nat.strongRecOn with
  | _ m IH =>
    intro k i hk hm hi
    refine opstep (X := XL g l b n 132 i) (Xs := XE g (l + 1) b n) (Xn := XL g l b n 132 (i + 1)) (Ms := ME g (l + 1) b n) hL ht hl hk (fun k1 h1 _ => SUB k1 h1) (fun k1 h1 h2 => ?_) (fun τ Φ c H => xl_N hl Φ (Or.inl c) H) (fun τ Φ lt c H => xl_S hl Φ (nI_ge (b := 132) (by omega) (by omega)) c H) mR (fun υ Φ f H => mR υ Φ (fun z => absurd (f.symm.trans z) (by decide)) (fun _ => H) (fun j _ _ sg => absurd (f.symm.trans sg.1) (by decide)))
    have kL : k1.1 ≤ L := by have := h1.1; have := h1.2.1; omega
    exact IH (L - k1.1) (by omega) k1 (i + 1) h1 (by omega) (by omega)
/-- level 5 is a part -/
theorem lev5 (PP : ∀ k, okT t L k → PA t L (XP g b n) (MP g b n) k b n) (hk : okT t L k) : PA t L (XE g 5 b n) (ME g 5 b n) k b n := by
  obtain ⟨ok, k', e, kk, h1, h2, h3, h4⟩ := PP k hk
  refine ⟨ok, k', e, kk, h1, h2, ?_, ?_⟩
  · intro τ es p hX he Φ H d hd
    obtain ⟨d, rfl⟩ : ∃ d', d = d' + 1 := ⟨d - 1, by unfold bM at hd; omega⟩
    refine mI ok_X8_expression.1 rfl rfl rfl (s_X8_expression_0 g τ _ d (by unfold bM at hd; omega) (nI 5) (nI b) (nI n) ⟨fun c => absurd c (by decide), fun _ => ?_⟩)
    have nb : ∀ b : Bool, narrow .boolean (.int (ind b)) = .int (ind b) := fun b => by cases b <;> rfl
    exact h3 τ es p hX he _ (fun τ' a1 a2 a3 => ⟨nb ok, _, rfl, H τ' a1 a2 a3⟩) d (by omega)
  · intro υ cs p hM hc Φ H d hd
    exact h4 υ cs p hM hc Φ H d (by omega)
theorem lev4 (hL : L ≤ 132) (ht : ∀ i, i < L → t i < 256) (SUB : ∀ k, okT t L k → PA t L (XE g 5 b n) (ME g 5 b n) k b n) (hk : okT t L k) : PA t L (XE g 4 b n) (ME g 4 b n) k b n := by
  refine exprstep (SUB k hk) (Xl := XL g 4 b n 132 0) (Ml := fun υ Φ => ∀ d, bM b n + (6 - 4) ≤ d + 1 → vt_Mi g 5 D_X12_signHere [.ref (g.2.1 168), .int 7, .int 8] υ (fun r υ2 => TT g (vt_R (d + 1)) 0 0 D_X12_term none 13 [some (.ref (g.2.1 168)), some (.int r)] [] υ2 (fun v σ' => v = none ∧ Φ σ'))) (fun k1 h1 _ => loop_all hL ht (by omega) SUB ?_ (L - k1.1) k1 0 h1 (by have := h1.1; have := h1.2.1; omega) (by omega)) (fun τ Φ H => xe_R (by omega) rfl Φ H) (fun υ Φ H d hd => ?_) (fun υ Φ f H d hd => ?_)
  · intro υ Φ vp hN hS d hd
    obtain ⟨d1, d2⟩ := bM_9 (l := 4) (by omega) hd
    refine m_signHere vp (lo := 7) (hi := 8) (by omega) (by omega) _ (fun no => s_X12_term_13 g υ _ d d1 (-1) ⟨fun _ => ⟨rfl, hN no⟩, fun c => absurd (by decide) c⟩) (fun j a1 a2 sg => s_X12_term_13 g υ _ d d1 (nI j) ⟨fun c => absurd c (nI_pos (by omega)), fun _ => (hS j a1 a2 sg).mono (fun υ2 h2 => (h2 d d2).mono (fun υ3 h3 => h3.mono (fun υ4 h4 => h4 d hd)))⟩)
  · obtain ⟨d, rfl⟩ : ∃ d', d = d' + 1 := ⟨d - 1, by unfold bM at hd; omega⟩
    obtain ⟨d1, d2⟩ := bM_9 (l := 4) (by omega) hd
    exact mV ok_X12_term.1 rfl rfl rfl (s_X12_term_0 g υ _ d d1 ((H d d2).mono (fun υ1 h1 => h1 d hd)))
  · obtain ⟨d1, d2⟩ := bM_9 (l := 4) (by omega) hd
    exact m_signHere (fun z => absurd (f.symm.trans z) (by decide)) (lo := 7) (hi := 8) (by omega) (by omega) _ (fun no => s_X12_term_13 g υ _ d d1 (-1) ⟨fun _ => ⟨rfl, H⟩, fun c => absurd (by decide) c⟩) (fun j a1 a2 sg => absurd (f.symm.trans sg.1) (by decide))
theorem lev3 (hL : L ≤ 132) (ht : ∀ i, i < L → t i < 256) (SUB : ∀ k, okT t L k → PA t L (XE g 4 b n) (ME g 4 b n) k b n) (hk : okT t L k) : PA t L (XE g 3 b n) (ME g 3 b n) k b n := by
  refine exprstep (SUB k hk) (Xl := XL g 3 b n 132 0) (Ml := fun υ Φ => ∀ d, bM b n + (6 - 3) ≤ d + 1 → vt_Mi g 5 D_X12_signHere [.ref (g.2.1 168), .int 5, .int 6] υ (fun r υ2 => TT g (vt_R (d + 1)) 0 0 D_X12_sum none 12 [some (.ref (g.2.1 168)), some (.int r)] [] υ2 (fun v σ' => v = none ∧ Φ σ'))) (fun k1 h1 _ => loop_all hL ht (by omega) SUB ?_ (L - k1.1) k1 0 h1 (by have := h1.1; have := h1.2.1; omega) (by omega)) (fun τ Φ H => xe_R (by omega) rfl Φ H) (fun υ Φ H d hd => ?_) (fun υ Φ f H d hd => ?_)
  · intro υ Φ vp hN hS d hd
    obtain ⟨d1, d2⟩ := bM_9 (l := 3) (by omega) hd
    refine m_signHere vp (lo := 5) (hi := 6) (by omega) (by omega) _ (fun no => s_X12_sum_12 g υ _ d d1 (-1) ⟨fun _ => ⟨rfl, hN no⟩, fun c => absurd (by decide) c⟩) (fun j a1 a2 sg => s_X12_sum_12 g υ _ d d1 (nI j) ⟨fun c => absurd c (nI_pos (by omega)), fun _ => (hS j a1 a2 sg).mono (fun υ2 h2 => (h2 d d2).mono (fun υ3 h3 => h3.mono (fun υ4 h4 => h4 d hd)))⟩)
  · obtain ⟨d, rfl⟩ : ∃ d', d = d' + 1 := ⟨d - 1, by unfold bM at hd; omega⟩
    obtain ⟨d1, d2⟩ := bM_9 (l := 3) (by omega) hd
    exact mV ok_X12_sum.1 rfl rfl rfl (s_X12_sum_0 g υ _ d d1 ((H d d2).mono (fun υ1 h1 => h1 d hd)))
  · obtain ⟨d1, d2⟩ := bM_9 (l := 3) (by omega) hd
    exact m_signHere (fun z => absurd (f.symm.trans z) (by decide)) (lo := 5) (hi := 6) (by omega) (by omega) _ (fun no => s_X12_sum_12 g υ _ d d1 (-1) ⟨fun _ => ⟨rfl, H⟩, fun c => absurd (by decide) c⟩) (fun j a1 a2 sg => absurd (f.symm.trans sg.1) (by decide))
/-- a test has one sign at most -/
theorem lev2 (hL : L ≤ 132) (ht : ∀ i, i < L → t i < 256) (SUB : ∀ k, okT t L k → PA t L (XE g 3 b n) (ME g 3 b n) k b n) (hk : okT t L k) : PA t L (XE g 2 b n) (ME g 2 b n) k b n := by
  refine exprstep (SUB k hk) (Xl := XL g 2 b n 1 0) (Ml := fun υ Φ => ∀ d, bM b n + (6 - 2) ≤ d + 1 → vt_Mi g 5 D_X12_signHere [.ref (g.2.1 168), .int 2, .int 4] υ (fun r3 σ2 => (r3 < 0 → none = (none : Option Value) ∧ Φ σ2) ∧ (¬ r3 < 0 → vt_Mv g 2 D_X12_next [.ref (g.2.1 168)] σ2 (fun σ5 => vt_Mv g d D_X12_sum [.ref (g.2.1 168)] σ5 (fun σ6 => vt_Mv g 0 D_X12_put [.ref (g.2.1 168), .int (200000 + r3)] σ6 (fun σ7 => none = (none : Option Value) ∧ Φ σ7)))))) (fun k1 h1 _ => ?_) (fun τ Φ H => xe_R (by omega) rfl Φ H) (fun υ Φ H d hd => ?_) (fun υ Φ f H d hd => ?_)
  · refine opstep (X := XL g 2 b n 1 0) (Xs := XE g 3 b n) (Xn := XL g 2 b n 1 1) (Ms := ME g 3 b n) (Mn := fun υ Φ => Φ υ) (l := 2) hL ht (by omega) h1 (fun k2 h2 _ => SUB k2 h2) (fun k2 h2 _ => ?_) (fun τ Φ c H => xl_N (by omega) Φ (Or.inl c) H) (fun τ Φ lt c H => xl_S (by omega) Φ (by decide) c H) ?_ (fun υ Φ _ H => H)
    · refine ⟨true, k2, [], 0, fun _ => ⟨h2, by show 0 + k2.1 ≤ k2.1; omega, Nat.le_refl _, fun rest d => rfl⟩, by have := h2.1; have := h2.2.1; omega, ?_, ?_⟩
      · intro τ es p hX he Φ H
        exact xl_N (by omega) Φ (Or.inr (by decide)) (H τ (FrX.rf τ) (fun _ => by rw [List.append_nil]; exact hX) (fun z => (by cases z)))
      · intro υ cs p hM hc Φ H
        exact H υ (FrM.rf υ) (fun _ => by rw [List.map_nil, List.append_nil]; exact hM) (fun z => (by cases z))
    · intro υ Φ vp hN hS d hd
      obtain ⟨d1, d2⟩ := bM_9 (l := 2) (by omega) hd
      exact m_signHere vp (lo := 2) (hi := 4) (by omega) (by omega) _ (fun no => ⟨fun _ => ⟨rfl, hN no⟩, fun c => absurd (by decide) c⟩) (fun j a1 a2 sg => ⟨fun c => absurd c (nI_pos (by omega)), fun _ => (hS j a1 a2 sg).mono (fun υ2 h2 => (h2 d d2).mono (fun υ3 h3 => h3.mono (fun υ4 h4 => ⟨rfl, h4⟩)))⟩)
  · obtain ⟨d, rfl⟩ : ∃ d', d = d' + 1 := ⟨d - 1, by unfold bM at hd; omega⟩
    obtain ⟨d1, d2⟩ := bM_9 (l := 2) (by omega) hd
    exact mV ok_X12_test.1 rfl rfl rfl (s_X12_test_0 g υ _ d d1 ((H d d2).mono (fun υ1 h1 => h1 d hd)))
  · exact m_signHere (fun z => absurd (f.symm.trans z) (by decide)) (lo := 2) (hi := 4) (by omega) (by omega) _ (fun no => ⟨fun _ => ⟨rfl, H⟩, fun c => absurd (by decide) c⟩) (fun j a1 a2 sg => absurd (f.symm.trans sg.1) (by decide))
theorem lev1 (hL : L ≤ 132) (ht : ∀ i, i < L → t i < 256) (SUB : ∀ k, okT t L k → PA t L (XE g 2 b n) (ME g 2 b n) k b n) (hk : okT t L k) : PA t L (XE g 1 b n) (ME g 1 b n) k b n := by
  refine exprstep (SUB k hk) (Xl := XL g 1 b n 132 0) (Ml := fun υ Φ => ∀ d, bM b n + (6 - 1) ≤ d + 1 → TT g (vt_R (d + 1)) 0 0 D_X12_both none 4 [some (.ref (g.2.1 168))] [] υ (fun v σ' => v = none ∧ Φ σ')) (fun k1 h1 _ => loop_all hL ht (by omega) SUB ?_ (L - k1.1) k1 0 h1 (by have := h1.1; have := h1.2.1; omega) (by omega)) (fun τ Φ H => xe_R (by omega) rfl Φ H) (fun υ Φ H d hd => ?_) (fun υ Φ f H d hd => ?_)
  · intro υ Φ vp hN hS d hd
    obtain ⟨d1, d2⟩ := bM_9 (l := 1) (by omega) hd
    refine s_X12_both_4 g υ _ d d1 (m_signHere vp (lo := 1) (hi := 1) (by omega) (by omega) _ (fun no => ⟨fun _ => ⟨rfl, hN no⟩, fun c => absurd (by decide) c⟩) (fun j a1 a2 sg => ⟨fun c => absurd c (nI_pos (by omega)), fun _ => ?_⟩))
    have : j = 1 := by omega
    subst this
    exact (hS 1 a1 a2 sg).mono (fun υ2 h2 => (h2 d d2).mono (fun υ3 h3 => h3.mono (fun υ4 h4 => h4 d hd)))
  · obtain ⟨d, rfl⟩ : ∃ d', d = d' + 1 := ⟨d - 1, by unfold bM at hd; omega⟩
    obtain ⟨d1, d2⟩ := bM_9 (l := 1) (by omega) hd
    exact mV ok_X12_both.1 rfl rfl rfl (s_X12_both_0 g υ _ d d1 ((H d d2).mono (fun υ1 h1 => h1 d hd)))
  · obtain ⟨d1, d2⟩ := bM_9 (l := 1) (by omega) hd
    exact s_X12_both_4 g υ _ d d1 (m_signHere (fun z => absurd (f.symm.trans z) (by decide)) (lo := 1) (hi := 1) (by omega) (by omega) _ (fun no => ⟨fun _ => ⟨rfl, H⟩, fun c => absurd (by decide) c⟩) (fun j a1 a2 sg => absurd (f.symm.trans sg.1) (by decide)))
theorem lev0 (hL : L ≤ 132) (ht : ∀ i, i < L → t i < 256) (SUB : ∀ k, okT t L k → PA t L (XE g 1 b n) (ME g 1 b n) k b n) (hk : okT t L k) : PA t L (XE g 0 b n) (ME g 0 b n) k b n := by
  refine exprstep (SUB k hk) (Xl := XL g 0 b n 132 0) (Ml := fun υ Φ => ∀ d, bM b n + (6 - 0) ≤ d + 1 → TT g (vt_R (d + 1)) 0 0 D_X12_either none 4 [some (.ref (g.2.1 168))] [] υ (fun v σ' => v = none ∧ Φ σ')) (fun k1 h1 _ => loop_all hL ht (by omega) SUB ?_ (L - k1.1) k1 0 h1 (by have := h1.1; have := h1.2.1; omega) (by omega)) (fun τ Φ H => xe_R (by omega) rfl Φ H) (fun υ Φ H d hd => ?_) (fun υ Φ f H d hd => ?_)
  · intro υ Φ vp hN hS d hd
    obtain ⟨d1, d2⟩ := bM_9 (l := 0) (by omega) hd
    refine s_X12_either_4 g υ _ d d1 (m_signHere vp (lo := 0) (hi := 0) (by omega) (by omega) _ (fun no => ⟨fun _ => ⟨rfl, hN no⟩, fun c => absurd (by decide) c⟩) (fun j a1 a2 sg => ⟨fun c => absurd c (nI_pos (by omega)), fun _ => ?_⟩))
    have : j = 0 := by omega
    subst this
    exact (hS 0 a1 a2 sg).mono (fun υ2 h2 => (h2 d d2).mono (fun υ3 h3 => h3.mono (fun υ4 h4 => h4 d hd)))
  · obtain ⟨d, rfl⟩ : ∃ d', d = d' + 1 := ⟨d - 1, by unfold bM at hd; omega⟩
    obtain ⟨d1, d2⟩ := bM_9 (l := 0) (by omega) hd
    exact mV ok_X12_either.1 rfl rfl rfl (s_X12_either_0 g υ _ d d1 ((H d d2).mono (fun υ1 h1 => h1 d hd)))
  · obtain ⟨d1, d2⟩ := bM_9 (l := 0) (by omega) hd
    exact s_X12_either_4 g υ _ d d1 (m_signHere (fun z => absurd (f.symm.trans z) (by decide)) (lo := 0) (hi := 0) (by omega) (by omega) _ (fun no => ⟨fun _ => ⟨rfl, H⟩, fun c => absurd (by decide) c⟩) (fun j a1 a2 sg => absurd (f.symm.trans sg.1) (by decide)))
/-- every part, at every depth -/
theorem par_all (hL : L ≤ 132) (ht : ∀ i, i < L → t i < 256) : ∀ N b n, b ≤ 8 → n ≤ 8 → 7 * (8 - b) + (8 - n) ≤ N → (∀ k, okT t L k → PA t L (XP g b n) (MP g b n) k b n) ∧ ∀ k, okT t L k → PA t L (XE g 0 b n) (ME g 0 b n) k b n := by
  intro N
  induction N with
  | zero =>
    intro b n hb hn h
    have PP : ∀ k, okT t L k → PA t L (XP g b n) (MP g b n) k b n := fun k hk => part_all hL ht hb hn (fun z => absurd z (by omega)) (fun z => absurd z (by omega)) hk
    exact ⟨PP, fun k hk => lev0 hL ht (fun k hk => lev1 hL ht (fun k hk => lev2 hL ht (fun k hk => lev3 hL ht (fun k hk => lev4 hL ht (fun k hk => lev5 PP hk) hk) hk) hk) hk) hk⟩
  | succ N IH =>
    intro b n hb hn h
    have PP : ∀ k, okT t L k → PA t L (XP g b n) (MP g b n) k b n := fun k hk => part_all hL ht hb hn (fun z => (IH b (n + 1) hb (by omega) (by omega)).1) (fun z => (IH (b + 1) n (by omega) hn (by omega)).2) hk
    exact ⟨PP, fun k hk => lev0 hL ht (fun k hk => lev1 hL ht (fun k hk => lev2 hL ht (fun k hk => lev3 hL ht (fun k hk => lev4 hL ht (fun k hk => lev5 PP hk) hk) hk) hk) hk) hk⟩
end PARB
