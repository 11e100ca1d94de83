/-! LEASES: the whole text -/
section PARD
variable {g : vt_GT} {σ τ υ : vt_Sg} {t : Nat → Nat} {L b n p : Nat} {k : TK}
theorem XS.s9 {es : List Int32} {f : Nat → Int32} (h : XS t L τ k es p) : XS t L (su τ 109 f) k es p := by
  obtain ⟨⟨a1, a2⟩, ⟨a3, a4, a5⟩, a6, a7, a8, a9, a10⟩ := h
  refine ⟨⟨?_, fun i hi => ?_⟩, ⟨?_, ?_, ?_⟩, fun z => ?_, fun z y => ?_, ?_, fun j hj => ?_, ?_⟩
  · rw [su_ne (by omega)]; exact a1
  · rw [su_ne (by omega)]; exact a2 i hi
  · rw [su_ne (by omega)]; exact a3
  · rw [su_ne (by omega)]; exact a4
  · rw [su_ne (by omega)]; exact a5
  · rw [su_ne (by omega)]; exact a6 z
  · rw [su_ne (by omega)]; exact a7 z y
  · rw [su_ne (by omega)]; exact a8
  · rw [su_ne (by omega)]; exact a9 j hj
  · rw [su_ne (by omega)]; exact a10
theorem wfe_p {e : List Int32} (h : WFe e) : wfp e := by
  have := h [] 0
  rw [List.append_nil] at this
  exact this
/-- one word more of the component's -/
theorem x_sec {w : Nat} (hw : w < 3) (P : Option Value → vt_Sg → Prop) (H : XW g w τ (fun r σ5 => (¬ r = 0 → TT g (vt_R 121) 0 0 D_X8_findFault none 26 [some (.ref (g.2.1 107)), some (.int (nI (w + 1)))] [] (su σ5 109 (upd (σ5 109) w (σ5 107 5))) P) ∧ (r = 0 → P (some (.int (σ5 107 8))) σ5))) : TT g (vt_R 121) 0 0 D_X8_findFault none 26 [some (.ref (g.2.1 107)), some (.int (nI w))] [] τ P := by
  refine s_X8_findFault_26 g τ _ _ ⟨fun c => absurd c (nI_ge (b := 3) hw (by omega)), fun _ => ⟨fun c => (H.1 c).mono (fun σ4 h4 => vt_Mi.mono h4 (fun r σ5 h5 => ⟨fun z => ⟨inN hw (by omega), ?_⟩, h5.2⟩)), fun c => (H.2 c).2 rfl⟩⟩
  rw [nI_clamp (by omega), nI_1]
  exact h5.1 z
def Fr9 (τ τ' : vt_Sg) : Prop := ∀ k, k ≠ 107 → k ≠ 108 → k ≠ 109 → τ' k = τ k
theorem read_all (hL : L ≤ 132) (ht : ∀ i, i < L → t i < 256) : ∃ (ok : Bool) (x : Nat) (c0 c1 c2 : List Int32) (pp : Nat), (ok = true → c0.length + c1.length + c2.length ≤ 132 ∧ 0 < pp ∧ pp ≤ 132 ∧ wfp c0 ∧ wfp c1 ∧ wfp c2) ∧ x ≤ 132 ∧
    (∀ τ, tapX τ t L → τ 107 6 = 0 → τ 107 7 = -1 → τ 107 5 = 0 → τ 107 3 = 0 → ∀ P : Option Value → vt_Sg → Prop, (∀ τ', Fr9 τ τ' → (ok = true → τ' 107 3 = nI pp ∧ (∀ j, j < c0.length + c1.length + c2.length → τ' 108 j = (c0 ++ (c1 ++ c2)).getD j 0) ∧ τ' 109 0 = nI c0.length ∧ τ' 109 1 = nI (c0.length + c1.length) ∧ τ' 109 2 = nI (c0.length + c1.length + c2.length)) → P (some (.int (if ok = true then -1000000005 else nI x))) τ') →
      vt_Mv g 8 D_X8_advance [.ref (g.2.1 107)] τ (fun σ1 => TT g (vt_R 121) 0 0 D_X8_findFault none 26 [some (.ref (g.2.1 107)), some (.int (nI 0))] [] σ1 P)) ∧
    (∀ υ, tapM υ t L → υ 168 11 = 0 → υ 168 12 = 0 → υ 168 13 = 0 → υ 168 14 = 0 → υ 168 15 = 0 → υ 168 17 = 0 → υ 168 18 = 0 → ∀ Φ : vt_Sg → Prop, (∀ υ', FrM υ υ' → (ok = true → υ' 168 13 = 0 ∧ υ' 168 12 = 0 ∧ υ' 168 17 = nI (c0.length + c1.length + c2.length + 3) ∧ (∀ j, j < c0.length + c1.length + c2.length + 3 → υ' 176 j = (c0.map tr ++ 300000 :: (c1.map tr ++ 300000 :: (c2.map tr ++ [300000]))).getD j 0) ∧ υ' 168 18 = nI pp) → (ok = false → (¬ υ' 168 13 = 0 ∨ ¬ υ' 168 12 = 0) ∧ υ' 168 10 = nI x) → Φ υ') →
      vt_Mv g 2 D_X12_next [.ref (g.2.1 168)] υ (fun σ1 => MW g 0 σ1 (fun σ3 => vt_Mv g 0 D_X12_put [.ref (g.2.1 168), .int 300000] σ3 (fun σ4 => MW g 1 σ4 (fun σ6 => vt_Mv g 0 D_X12_put [.ref (g.2.1 168), .int 300000] σ6 (fun σ7 => MW g 2 σ7 (fun σ9 => vt_Mv g 0 D_X12_put [.ref (g.2.1 168), .int 300000] σ9 (fun σ10 => Φ σ10)))))))) := by
  obtain ⟨o0, _⟩ := nx_ok (t := t) (L := L) (pos := 0) false (Nat.zero_le _)
  have X0 : ∀ τ, tapX τ t L → τ 107 6 = 0 → τ 107 7 = -1 → τ 107 5 = 0 → τ 107 3 = 0 → ∀ Φ : vt_Sg → Prop, (∀ τ', FrX τ τ' → XS t L τ' (nx t L false 0) [] 0 → Φ τ') → vt_Mv g 8 D_X8_advance [.ref (g.2.1 107)] τ Φ := by
    intro τ hT h6 h7 h5 h3 Φ H
    refine c_X8_advance (w := false) (pos := 0) hL ht hT h6 (by rw [h7]; exact ⟨fun _ => rfl, fun z => absurd (by decide) z⟩) (Nat.zero_le _) Φ (fun f b0 b6 b8 b7 b9 b10 => H _ (fun i c1 c2 => su_ne c1) ⟨⟨?_, fun i hi => ?_⟩, ⟨?_, ?_, ?_⟩, fun z => ?_, fun z y => ?_, ?_, fun j hj => absurd hj (Nat.not_lt_zero _), ?_⟩)
    · rw [su_same, b0 0 (by omega) (by omega) (by omega) (by omega)]; exact hT.1
    · rw [su_ne (by omega)]; exact hT.2 i hi
    · rw [su_same]; exact b6
    · rw [su_same]; exact b8
    · rw [su_same]; exact b7
    · rw [su_same]; exact b9 z
    · rw [su_same]; exact b10 z y
    · rw [su_same, b0 5 (by omega) (by omega) (by omega) (by omega)]; exact h5
    · rw [su_same, b0 3 (by omega) (by omega) (by omega) (by omega)]; exact h3
  have M0 : ∀ υ, tapM υ t L → υ 168 11 = 0 → υ 168 12 = 0 → υ 168 13 = 0 → υ 168 14 = 0 → υ 168 15 = 0 → υ 168 17 = 0 → υ 168 18 = 0 → ∀ Φ : vt_Sg → Prop, (∀ υ', FrM υ υ' → MS t L υ' (nx t L false 0) [] 0 0 0 → Φ υ') → vt_Mv g 2 D_X12_next [.ref (g.2.1 168)] υ Φ := by
    intro υ hT h11 h12 h13 h14 h15 h17 h18 Φ H
    refine c_X12_next (pos := 0) (kd := 0) hL ht hT (by omega) h11 h12 (Nat.zero_le _) Φ (fun f b0 b10 b11 b12 => H _ ⟨fun i c1 c2 => su_ne c1, fun j hj => by rw [su_same]; exact b0 j (by omega) (by omega) (by omega)⟩ ⟨⟨?_, fun i hi => ?_⟩, ⟨?_, ?_, ?_⟩, ⟨?_, ?_, ?_⟩, ?_, fun j hj => absurd hj (Nat.not_lt_zero _), ?_⟩)
    · rw [su_same, b0 4 (by omega) (by omega) (by omega)]; exact hT.1
    · rw [su_ne (by omega)]; exact hT.2 i hi
    · rw [su_same]; exact b10
    · rw [su_same]; exact b11
    · rw [su_same]; exact b12
    · rw [su_same, b0 13 (by omega) (by omega) (by omega)]; exact h13
    · rw [su_same, b0 14 (by omega) (by omega) (by omega)]; exact h14
    · rw [su_same, b0 15 (by omega) (by omega) (by omega)]; exact h15
    · rw [su_same, b0 17 (by omega) (by omega) (by omega)]; exact h17
    · rw [su_same, b0 18 (by omega) (by omega) (by omega)]; exact h18
  generalize nx t L false 0 = k0 at o0 X0 M0
  obtain ⟨ok0, k1, e0, kk0, h1, h2, h3, h4⟩ := sec_all (g := g) hL ht (w := 0) (by omega) o0
  -- behind a fault, to the end
  have F3 : ∀ (υ : vt_Sg) (x : Nat) (Φ : vt_Sg → Prop), FT υ x → (∀ υ', FrM υ υ' → FT υ' x → Φ υ') → vt_Mv g 0 D_X12_put [.ref (g.2.1 168), .int 300000] υ (fun σ10 => Φ σ10) := fun υ x Φ f H => m_putF (by rw [f.1]; decide) _ (H υ (FrM.rf υ) f)
  have F2 : ∀ (υ : vt_Sg) (x : Nat) (Φ : vt_Sg → Prop), FT υ x → (∀ υ', FrM υ υ' → FT υ' x → Φ υ') → vt_Mv g 0 D_X12_put [.ref (g.2.1 168), .int 300000] υ (fun σ7 => MW g 2 σ7 (fun σ9 => vt_Mv g 0 D_X12_put [.ref (g.2.1 168), .int 300000] σ9 (fun σ10 => Φ σ10))) := fun υ x Φ f H => m_putF (by rw [f.1]; decide) _ (m_secF (by omega) f _ (fun υ1 g1 f1 => F3 υ1 x Φ f1 (fun υ2 g2 f2 => H υ2 (g1.tr g2) f2)))
  have F1 : ∀ (υ : vt_Sg) (x : Nat) (Φ : vt_Sg → Prop), FT υ x → (∀ υ', FrM υ υ' → FT υ' x → Φ υ') → vt_Mv g 0 D_X12_put [.ref (g.2.1 168), .int 300000] υ (fun σ4 => MW g 1 σ4 (fun σ6 => vt_Mv g 0 D_X12_put [.ref (g.2.1 168), .int 300000] σ6 (fun σ7 => MW g 2 σ7 (fun σ9 => vt_Mv g 0 D_X12_put [.ref (g.2.1 168), .int 300000] σ9 (fun σ10 => Φ σ10))))) := fun υ x Φ f H => m_putF (by rw [f.1]; decide) _ (m_secF (by omega) f _ (fun υ1 g1 f1 => F2 υ1 x Φ f1 (fun υ2 g2 f2 => H υ2 (g1.tr g2) f2)))
  cases z0 : ok0 with
  | false =>
    refine ⟨false, k1.1, [], [], [], 0, fun z => (by cases z), by omega, ?_, ?_⟩
    · intro τ hT a6 a7 a5 a3 P H
      refine X0 τ hT a6 a7 a5 a3 _ (fun τ1 g1 X1 => x_sec (by omega) P (h3 τ1 [] 0 X1 (Nat.zero_le _) _ (fun τ2 g2 _ f2 => ?_)))
      rw [z0]
      refine ⟨fun y => absurd rfl y, fun _ => ?_⟩
      rw [f2 z0]
      exact H τ2 (fun i c1 c2 c3 => (g2 i c1 c2).trans (g1 i c1 c2)) (fun y => (by cases y))
    · intro υ hT a11 a12 a13 a14 a15 a17 a18 Φ H
      refine M0 υ hT a11 a12 a13 a14 a15 a17 a18 _ (fun υ1 g1 M1 => h4 υ1 [] 0 M1 (Nat.zero_le _) _ (fun υ2 g2 _ f2 => ?_))
      exact F1 υ2 k1.1 Φ (f2 z0) (fun υ3 g3 f3 => H υ3 (g1.tr (g2.tr g3)) (fun y => (by cases y)) (fun _ => ⟨Or.inl (by rw [f3.1]; decide), f3.2.1⟩))
  | true =>
    obtain ⟨p1, p2, p3, p4, p5⟩ := h1 z0
    obtain ⟨ok1, k2, e1, kk1, i1, i2, i3, i4⟩ := sec_all (g := g) hL ht (w := 1) (by omega) p1
    have k1L : k1.1 ≤ L := h2
    -- the component and the reference, up to the second part
    have X1 : ∀ τ, tapX τ t L → τ 107 6 = 0 → τ 107 7 = -1 → τ 107 5 = 0 → τ 107 3 = 0 → ∀ P : Option Value → vt_Sg → Prop, (∀ τ', Fr9 τ τ' → XS t L τ' k1 e0 kk0 → τ' 109 0 = nI e0.length → TT g (vt_R 121) 0 0 D_X8_findFault none 26 [some (.ref (g.2.1 107)), some (.int (nI 1))] [] τ' P) → vt_Mv g 8 D_X8_advance [.ref (g.2.1 107)] τ (fun σ1 => TT g (vt_R 121) 0 0 D_X8_findFault none 26 [some (.ref (g.2.1 107)), some (.int (nI 0))] [] σ1 P) := by
      intro τ hT a6 a7 a5 a3 P H
      refine X0 τ hT a6 a7 a5 a3 _ (fun τ1 g1 X1 => x_sec (by omega) P (h3 τ1 [] 0 X1 (Nat.zero_le _) _ (fun τ2 g2 t2 _ => ?_)))
      rw [z0]
      refine ⟨fun _ => H _ (fun i c1 c2 c3 => ?_) ?_ ?_, fun y => absurd y (by decide)⟩
      · rw [su_ne c3]; exact (g2 i c1 c2).trans (g1 i c1 c2)
      · have := (t2 z0).s9 (f := upd (τ2 109) 0 (τ2 107 5))
        rw [List.nil_append, Nat.zero_add] at this
        exact this
      · rw [su_same, upd_same]; exact (t2 z0).2.2.2.2.1
    have M1 : ∀ υ, tapM υ t L → υ 168 11 = 0 → υ 168 12 = 0 → υ 168 13 = 0 → υ 168 14 = 0 → υ 168 15 = 0 → υ 168 17 = 0 → υ 168 18 = 0 → ∀ Φ : vt_Sg → Prop, (∀ υ', FrM υ υ' → MS t L υ' k1 (e0.map tr ++ [300000]) kk0 0 0 → Φ υ') → vt_Mv g 2 D_X12_next [.ref (g.2.1 168)] υ (fun σ1 => MW g 0 σ1 (fun σ3 => vt_Mv g 0 D_X12_put [.ref (g.2.1 168), .int 300000] σ3 (fun σ4 => Φ σ4))) := by
      intro υ hT a11 a12 a13 a14 a15 a17 a18 Φ H
      refine M0 υ hT a11 a12 a13 a14 a15 a17 a18 _ (fun υ1 g1 M1 => h4 υ1 [] 0 M1 (Nat.zero_le _) _ (fun υ2 g2 t2 _ => ?_))
      have q := t2 z0
      rw [List.nil_append, Nat.zero_add] at q
      exact m_put q (by rw [List.length_map]; omega) _ (fun υ3 g3 M3 => H υ3 (g1.tr (g2.tr g3)) M3)
    cases z1 : ok1 with
    | false =>
      refine ⟨false, k2.1, [], [], [], 0, fun z => (by cases z), by omega, ?_, ?_⟩
      · intro τ hT a6 a7 a5 a3 P H
        refine X1 τ hT a6 a7 a5 a3 P (fun τ1 g1 X1 _ => x_sec (by omega) P (i3 τ1 e0 kk0 X1 (by omega) _ (fun τ2 g2 _ f2 => ?_)))
        rw [z1]
        refine ⟨fun y => absurd rfl y, fun _ => ?_⟩
        rw [f2 z1]
        exact H τ2 (fun i c1 c2 c3 => (g2 i c1 c2).trans (g1 i c1 c2 c3)) (fun y => (by cases y))
      · intro υ hT a11 a12 a13 a14 a15 a17 a18 Φ H
        refine M1 υ hT a11 a12 a13 a14 a15 a17 a18 _ (fun υ1 g1 M1 => i4 υ1 _ kk0 M1 (by rw [List.length_append, List.length_map]; show e0.length + 1 ≤ _; omega) _ (fun υ2 g2 _ f2 => ?_))
        exact F2 υ2 k2.1 Φ (f2 z1) (fun υ3 g3 f3 => H υ3 (g1.tr (g2.tr g3)) (fun y => (by cases y)) (fun _ => ⟨Or.inl (by rw [f3.1]; decide), f3.2.1⟩))
    | true =>
      obtain ⟨q1, q2, q3, q4, q5⟩ := i1 z1
      obtain ⟨ok2, k3, e2, kk2, j1, j2, j3, j4⟩ := sec_all (g := g) hL ht (w := 2) (by omega) q1
      have X2 : ∀ τ, tapX τ t L → τ 107 6 = 0 → τ 107 7 = -1 → τ 107 5 = 0 → τ 107 3 = 0 → ∀ P : Option Value → vt_Sg → Prop, (∀ τ', Fr9 τ τ' → XS t L τ' k2 (e0 ++ e1) (kk0 + kk1) → τ' 109 0 = nI e0.length → τ' 109 1 = nI (e0.length + e1.length) → TT g (vt_R 121) 0 0 D_X8_findFault none 26 [some (.ref (g.2.1 107)), some (.int (nI 2))] [] τ' P) → vt_Mv g 8 D_X8_advance [.ref (g.2.1 107)] τ (fun σ1 => TT g (vt_R 121) 0 0 D_X8_findFault none 26 [some (.ref (g.2.1 107)), some (.int (nI 0))] [] σ1 P) := by
        intro τ hT a6 a7 a5 a3 P H
        refine X1 τ hT a6 a7 a5 a3 P (fun τ1 g1 X1 n0 => x_sec (by omega) P (i3 τ1 e0 kk0 X1 (by omega) _ (fun τ2 g2 t2 _ => ?_)))
        rw [z1]
        refine ⟨fun _ => H _ (fun i c1 c2 c3 => ?_) (t2 z1).s9 ?_ ?_, fun y => absurd y (by decide)⟩
        · rw [su_ne c3]; exact (g2 i c1 c2).trans (g1 i c1 c2 c3)
        · rw [su_same, upd_ne (by omega), g2 109 (by omega) (by omega)]; exact n0
        · rw [su_same, upd_same, (t2 z1).2.2.2.2.1, List.length_append]
      have M2 : ∀ υ, tapM υ t L → υ 168 11 = 0 → υ 168 12 = 0 → υ 168 13 = 0 → υ 168 14 = 0 → υ 168 15 = 0 → υ 168 17 = 0 → υ 168 18 = 0 → ∀ Φ : vt_Sg → Prop, (∀ υ', FrM υ υ' → MS t L υ' k2 (e0.map tr ++ [300000] ++ e1.map tr ++ [300000]) (kk0 + kk1) 0 0 → Φ υ') → vt_Mv g 2 D_X12_next [.ref (g.2.1 168)] υ (fun σ1 => MW g 0 σ1 (fun σ3 => vt_Mv g 0 D_X12_put [.ref (g.2.1 168), .int 300000] σ3 (fun σ4 => MW g 1 σ4 (fun σ6 => vt_Mv g 0 D_X12_put [.ref (g.2.1 168), .int 300000] σ6 (fun σ7 => Φ σ7))))) := by
        intro υ hT a11 a12 a13 a14 a15 a17 a18 Φ H
        refine M1 υ hT a11 a12 a13 a14 a15 a17 a18 _ (fun υ1 g1 M1 => i4 υ1 _ kk0 M1 (by rw [List.length_append, List.length_map]; show e0.length + 1 ≤ _; omega) _ (fun υ2 g2 t2 _ => ?_))
        exact m_put (t2 z1) (by rw [List.length_append, List.length_append, List.length_map, List.length_map]; show e0.length + 1 + e1.length < 140; omega) _ (fun υ3 g3 M3 => H υ3 (g1.tr (g2.tr g3)) M3)
      have len2 : (e0.map tr ++ [300000] ++ e1.map tr ++ [300000] : List Int32).length = e0.length + e1.length + 2 := by
        rw [List.length_append, List.length_append, List.length_append, List.length_map, List.length_map]
        show e0.length + 1 + e1.length + 1 = _
        omega
      cases z2 : ok2 with
      | false =>
        refine ⟨false, k3.1, [], [], [], 0, fun z => (by cases z), by omega, ?_, ?_⟩
        · intro τ hT a6 a7 a5 a3 P H
          refine X2 τ hT a6 a7 a5 a3 P (fun τ1 g1 X1 _ _ => x_sec (by omega) P (j3 τ1 _ _ X1 (by rw [List.length_append]; omega) _ (fun τ2 g2 _ f2 => ?_)))
          rw [z2]
          refine ⟨fun y => absurd rfl y, fun _ => ?_⟩
          rw [f2 z2]
          exact H τ2 (fun i c1 c2 c3 => (g2 i c1 c2).trans (g1 i c1 c2 c3)) (fun y => (by cases y))
        · intro υ hT a11 a12 a13 a14 a15 a17 a18 Φ H
          refine M2 υ hT a11 a12 a13 a14 a15 a17 a18 _ (fun υ1 g1 M1 => j4 υ1 _ _ M1 (by rw [len2]; omega) _ (fun υ2 g2 _ f2 => ?_))
          exact F3 υ2 k3.1 Φ (f2 z2) (fun υ3 g3 f3 => H υ3 (g1.tr (g2.tr g3)) (fun y => (by cases y)) (fun _ => ⟨Or.inl (by rw [f3.1]; decide), f3.2.1⟩))
      | true =>
        obtain ⟨r1, r2, r3, r4, r5⟩ := j1 z2
        have eX : ∀ τ, tapX τ t L → τ 107 6 = 0 → τ 107 7 = -1 → τ 107 5 = 0 → τ 107 3 = 0 → ∀ P : Option Value → vt_Sg → Prop, (∀ τ', Fr9 τ τ' → XS t L τ' k3 (e0 ++ (e1 ++ e2)) (kk0 + kk1 + kk2) → τ' 109 0 = nI e0.length → τ' 109 1 = nI (e0.length + e1.length) → τ' 109 2 = nI (e0.length + e1.length + e2.length) → P (some (.int (if k3.2.2 = 0 then -1000000005 else nI k3.1))) τ') → vt_Mv g 8 D_X8_advance [.ref (g.2.1 107)] τ (fun σ1 => TT g (vt_R 121) 0 0 D_X8_findFault none 26 [some (.ref (g.2.1 107)), some (.int (nI 0))] [] σ1 P) := by
          intro τ hT a6 a7 a5 a3 P H
          refine X2 τ hT a6 a7 a5 a3 P (fun τ1 g1 X1 n0 n1 => x_sec (by omega) P (j3 τ1 _ _ X1 (by rw [List.length_append]; omega) _ (fun τ2 g2 t2 _ => ?_)))
          rw [z2]
          have q := t2 z2
          rw [List.append_assoc] at q
          refine ⟨fun _ => ?_, fun y => absurd y (by decide)⟩
          have fin := H (su τ2 109 (upd (τ2 109) 2 (τ2 107 5))) (fun i c1 c2 c3 => by rw [su_ne c3]; exact (g2 i c1 c2).trans (g1 i c1 c2 c3)) q.s9 (by rw [su_same, upd_ne (by omega), g2 109 (by omega) (by omega)]; exact n0) (by rw [su_same, upd_ne (by omega), g2 109 (by omega) (by omega)]; exact n1) (by rw [su_same, upd_same, q.2.2.2.2.1, List.length_append, List.length_append, Nat.add_assoc])
          refine s_X8_findFault_26 g _ _ _ ⟨fun _ => ?_, fun c => absurd (by decide) c⟩
          have e7 : su τ2 109 (upd (τ2 109) 2 (τ2 107 5)) 107 7 = tok t k3 := by rw [su_ne (by omega)]; exact q.2.1.2.2
          have e8 : su τ2 109 (upd (τ2 109) 2 (τ2 107 5)) 107 8 = nI k3.1 := by rw [su_ne (by omega)]; exact q.2.1.2.1
          rw [e7, e8]
          by_cases c0 : k3.2.2 = 0
          · rw [if_pos c0] at fin
            exact ⟨fun c => absurd (tok_0 c0) c, fun _ => fin⟩
          · rw [if_neg c0] at fin
            refine ⟨fun _ => fin, fun c => ?_⟩
            exfalso
            have o3 := r1.2.2.1
            rcases (show k3.2.2 = 1 ∨ k3.2.2 = 2 ∨ k3.2.2 = 3 ∨ k3.2.2 = 4 by omega) with d | d | d | d
            · rw [tok_1 d] at c
              rcases tokL_c (t := t) k3.1 k3.2.1 with e | e | e | e | e <;> (rw [e] at c; exact absurd c (by decide))
            · rw [tok_2 d] at c; exact absurd c (by decide)
            · rw [tok_3 d] at c
              have lt3 := r1.2.2.2.2.1 (by omega)
              have hL3 := r1.2.1
              have := ht k3.1 (by omega)
              exact nI_neM1 (by omega) c
            · rw [tok_4 d] at c; exact absurd c (by decide)
        have eM : ∀ υ, tapM υ t L → υ 168 11 = 0 → υ 168 12 = 0 → υ 168 13 = 0 → υ 168 14 = 0 → υ 168 15 = 0 → υ 168 17 = 0 → υ 168 18 = 0 → ∀ Φ : vt_Sg → Prop, (∀ υ', FrM υ υ' → MS t L υ' k3 (e0.map tr ++ [300000] ++ e1.map tr ++ [300000] ++ e2.map tr ++ [300000]) (kk0 + kk1 + kk2) 0 0 → Φ υ') → vt_Mv g 2 D_X12_next [.ref (g.2.1 168)] υ (fun σ1 => MW g 0 σ1 (fun σ3 => vt_Mv g 0 D_X12_put [.ref (g.2.1 168), .int 300000] σ3 (fun σ4 => MW g 1 σ4 (fun σ6 => vt_Mv g 0 D_X12_put [.ref (g.2.1 168), .int 300000] σ6 (fun σ7 => MW g 2 σ7 (fun σ9 => vt_Mv g 0 D_X12_put [.ref (g.2.1 168), .int 300000] σ9 (fun σ10 => Φ σ10))))))) := by
          intro υ hT a11 a12 a13 a14 a15 a17 a18 Φ H
          refine M2 υ hT a11 a12 a13 a14 a15 a17 a18 _ (fun υ1 g1 M1 => j4 υ1 _ _ M1 (by rw [len2]; omega) _ (fun υ2 g2 t2 _ => ?_))
          exact m_put (t2 z2) (by rw [List.length_append, len2, List.length_map]; omega) _ (fun υ3 g3 M3 => H υ3 (g1.tr (g2.tr g3)) M3)
        by_cases c0 : k3.2.2 = 0
        · refine ⟨true, 0, e0, e1, e2, kk0 + kk1 + kk2, fun _ => ⟨by omega, by omega, by omega, wfe_p p5, wfe_p q5, wfe_p r5⟩, by omega, ?_, ?_⟩
          · intro τ hT a6 a7 a5 a3 P H
            refine eX τ hT a6 a7 a5 a3 P (fun τ' g1 Xf n0 n1 n2 => ?_)
            rw [if_pos c0]
            refine H τ' g1 (fun _ => ⟨Xf.2.2.2.2.2.2, fun j hj => Xf.2.2.2.2.2.1 j ?_, n0, n1, n2⟩)
            rw [List.length_append, List.length_append]; omega
          · intro υ hT a11 a12 a13 a14 a15 a17 a18 Φ H
            refine eM υ hT a11 a12 a13 a14 a15 a17 a18 Φ (fun υ' g1 Mf => H υ' g1 (fun _ => ?_) (fun y => (by cases y)))
            have el : (e0.map tr ++ [300000] ++ e1.map tr ++ [300000] ++ e2.map tr ++ [300000] : List Int32) = e0.map tr ++ 300000 :: (e1.map tr ++ 300000 :: (e2.map tr ++ [300000])) := by
              simp only [List.append_assoc, List.cons_append, List.nil_append]
            rw [el] at Mf
            have ll : (e0.map tr ++ 300000 :: (e1.map tr ++ 300000 :: (e2.map tr ++ [300000])) : List Int32).length = e0.length + e1.length + e2.length + 3 := by
              rw [List.length_append, List.length_cons, List.length_append, List.length_cons, List.length_append, List.length_map, List.length_map, List.length_map]
              show e0.length + (e1.length + (e2.length + 1) + 1 + 1) = _
              omega
            obtain ⟨_, ⟨_, _, b3⟩, ⟨b4, _, _⟩, b7, b8, b9⟩ := Mf
            refine ⟨b4, by rw [b3, c0]; rfl, by rw [b7, ll], fun j hj => b8 j (by rw [ll]; exact hj), b9⟩
        · refine ⟨false, k3.1, [], [], [], 0, fun z => (by cases z), by omega, ?_, ?_⟩
          · intro τ hT a6 a7 a5 a3 P H
            refine eX τ hT a6 a7 a5 a3 P (fun τ' g1 Xf n0 n1 n2 => ?_)
            rw [if_neg c0]
            exact H τ' g1 (fun y => (by cases y))
          · intro υ hT a11 a12 a13 a14 a15 a17 a18 Φ H
            refine eM υ hT a11 a12 a13 a14 a15 a17 a18 Φ (fun υ' g1 Mf => H υ' g1 (fun y => (by cases y)) (fun _ => ⟨Or.inr ?_, Mf.2.1.1⟩))
            rw [Mf.2.1.2.2]
            exact nI_ne0 (by omega) (by have := r1.2.2.1; omega)
end PARD
