/-! LEASES: a part of a text, read on both sides -/
section PARA
variable {g : vt_GT} {σ τ υ : vt_Sg} {t : Nat → Nat} {L b n p : Nat} {k : TK}
def WFe (e : List Int32) : Prop := ∀ rest d, dpt (e ++ rest) d = dpt rest (d + 1)
/-- what both sides come to: ok, the word behind, the steps, the leaves. Q tells of it where it is ok -/
def PQ (t : Nat → Nat) (L : Nat) (Q : TK → List Int32 → Nat → Prop) (X : vt_Sg → (Int32 → vt_Sg → Prop) → Prop) (M : vt_Sg → (vt_Sg → Prop) → Prop) (k : TK) (b n : Nat) : Prop :=
  ∃ (ok : Bool) (k' : TK) (e : List Int32) (kk : Nat), (ok = true → okT t L k' ∧ e.length + k.1 ≤ k'.1 ∧ kk ≤ e.length ∧ Q k' e kk) ∧ k'.1 ≤ L ∧
    (∀ τ es p, XS t L τ k es p → es.length ≤ k.1 → ∀ Φ : Int32 → vt_Sg → Prop, (∀ τ', FrX τ τ' → (ok = true → XS t L τ' k' (es ++ e) (p + kk)) → (ok = false → τ' 107 8 = nI k'.1) → Φ (ind ok) τ') → X τ Φ) ∧
    (∀ υ cs p, MS t L υ k cs p b n → cs.length ≤ k.1 + 3 → ∀ Φ : vt_Sg → Prop, (∀ υ', FrM υ υ' → (ok = true → MS t L υ' k' (cs ++ e.map tr) (p + kk) b n) → (ok = false → FT υ' k'.1) → Φ υ') → M υ Φ)
/-- a whole part: one number on the pile -/
abbrev PA (t : Nat → Nat) (L : Nat) := PQ t L (fun _ e kk => 1 ≤ kk ∧ WFe e)
/-- what follows a part -/
abbrev PL (t : Nat → Nat) (L : Nat) := PQ t L (fun _ e _ => ∀ rest d, dpt (e ++ rest) (d + 1) = dpt rest (d + 1))
theorem PQ.mono {Q : TK → List Int32 → Nat → Prop} {X X' : vt_Sg → (Int32 → vt_Sg → Prop) → Prop} {M M' : vt_Sg → (vt_Sg → Prop) → Prop} (h : PQ t L Q X M k b n) (hX : ∀ τ Φ, X τ Φ → X' τ Φ) (hM : ∀ υ Φ, M υ Φ → M' υ Φ) : PQ t L Q X' M' k b n := by
  obtain ⟨ok, k', e, kk, h1, h2, h3, h4⟩ := h
  exact ⟨ok, k', e, kk, h1, h2, fun τ es p a b Φ c => hX τ Φ (h3 τ es p a b Φ c), fun υ cs p a b Φ c => hM υ Φ (h4 υ cs p a b Φ c)⟩
theorem wf_leaf {v : Int32} (h : isLf v = true) : WFe [v] := fun rest d => by
  show dpt (v :: rest) d = _
  rw [dpt, if_pos h]
theorem wf_bang {e : List Int32} (h : WFe e) : WFe (e ++ [-33]) := fun rest d => by
  rw [List.append_assoc, h]
  show dpt (-33 :: rest) (d + 1) = _
  rw [dpt, if_neg (by decide), if_pos rfl, if_pos (by omega)]
theorem wf_sg {e : List Int32} (h : WFe e) {j : Nat} (hj : j < 9) : ∀ rest d, dpt (e ++ (-(signsB.getD j 0) :: rest)) (d + 1) = dpt rest (d + 1) := fun rest d => by
  rw [h]
  have f : ∀ j, j < 9 → isLf (-(signsB.getD j 0)) = false ∧ ¬ -(signsB.getD j 0) = -33 ∧ isSg (-(signsB.getD j 0)) = true := by decide +kernel
  obtain ⟨f1, f2, f3⟩ := f j hj
  rw [dpt, if_neg (by rw [f1]; decide), if_neg f2, if_pos f3, if_pos (by omega)]
  rfl
theorem tr_sg : ∀ j, j < 9 → tr (-(signsB.getD j 0)) = 200000 + nI j := by decide +kernel
theorem tr_33 : tr (-33) = 200009 := by decide +kernel
/-- a name by its byte -/
theorem nm_c : ∀ v, v < 256 → ¬ ixF (nI v) namesB 0 < 0 → isLf (-(nI v)) = true ∧ tr (-(nI v)) = 100000 + ixF (nI v) namesB 0 := by decide +kernel
def dgn (t : Nat → Nat) (fr : Nat) : Nat → Nat
  | 0 => 0
  | i + 1 => dgn t fr i * 10 + (t (fr + i) - 48)
theorem dgv_n {fr : Nat} : ∀ i, (∀ j, fr ≤ j → j < fr + i → isD (t j) = true) → dgv t fr i = nI (dgn t fr i) ∧ dgn t fr i < 10 ^ i
  | 0, _ => ⟨rfl, Nat.zero_lt_one⟩
  | i + 1, h => by
    obtain ⟨h1, h2⟩ := dgv_n i (fun j a b => h j a (by omega))
    have d := d_low (h (fr + i) (by omega) (by omega))
    have e48 : ∀ a, nI (a + 48) - 48 = nI a := fun a => by
      rw [← nI_add]; show nI a + 48 - 48 = nI a
      exact Int32.add_sub_cancel _ _
    refine ⟨?_, ?_⟩
    · rw [dgv, h1, dgn]
      have : nI (dgn t fr i) * 10 = nI (dgn t fr i * 10) := pk_mul _ 10
      rw [this, nI_add, show dgn t fr i * 10 + t (fr + i) = dgn t fr i * 10 + (t (fr + i) - 48) + 48 by omega, e48]
    · rw [dgn, Nat.pow_succ]; omega
theorem num_lf {fr i : Nat} (h : ∀ j, fr ≤ j → j < fr + i → isD (t j) = true) (hi : i ≤ 5) : isLf (dgv t fr i) = true ∧ tr (dgv t fr i) = dgv t fr i := by
  obtain ⟨h1, h2⟩ := dgv_n i h
  have h3 : dgn t fr i < 10 ^ 5 := Nat.lt_of_lt_of_le h2 (Nat.pow_le_pow_right (by omega) hi)
  have h3 : dgn t fr i < 100000 := h3
  have p : ¬ nI (dgn t fr i) < 0 := nI_pos (by omega)
  rw [h1]
  constructor
  · unfold isLf
    rw [decide_eq_true p, decide_eq_true (show nI (dgn t fr i) ≤ 99999 from nI_le (b := 99999) (by omega) (by omega))]; rfl
  · unfold tr
    rw [if_pos p]
/-- the parts' bounds of depth -/
def bM (b n : Nat) : Nat := 10 + 7 * (8 - b) + (8 - n)
abbrev XP (g : vt_GT) (b n : Nat) : vt_Sg → (Int32 → vt_Sg → Prop) → Prop := fun τ Φ => ∀ d, bM b n ≤ d → vt_Mi g d D_X8_part [.ref (g.2.1 107), .int (nI b), .int (nI n)] τ Φ
abbrev MP (g : vt_GT) (b n : Nat) : vt_Sg → (vt_Sg → Prop) → Prop := fun υ Φ => ∀ d, bM b n ≤ d → vt_Mv g d D_X12_part [.ref (g.2.1 168)] υ Φ
def dM (l : Nat) : vt_MD := if l = 0 then D_X12_either else if l = 1 then D_X12_both else if l = 2 then D_X12_test else if l = 3 then D_X12_sum else if l = 4 then D_X12_term else D_X12_part
abbrev XE (g : vt_GT) (l b n : Nat) : vt_Sg → (Int32 → vt_Sg → Prop) → Prop := fun τ Φ => ∀ d, bM b n + (6 - l) ≤ d → vt_Mi g d D_X8_expression [.ref (g.2.1 107), .int (nI l), .int (nI b), .int (nI n)] τ Φ
abbrev ME (g : vt_GT) (l b n : Nat) : vt_Sg → (vt_Sg → Prop) → Prop := fun υ Φ => ∀ d, bM b n + (6 - l) ≤ d → vt_Mv g d (dM l) [.ref (g.2.1 168)] υ Φ
/-- the reference's part, where it is neither a number nor a name -/
abbrev TLM (g : vt_GT) (d : Nat) (υ : vt_Sg) (Φ : vt_Sg → Prop) : Prop := vt_Mi g 0 D_X12_isSign [.ref (g.2.1 168), .int 33] υ (fun r5 σ4 => (r5 = 0 → vt_Mi g 0 D_X12_isSign [.ref (g.2.1 168), .int 40] σ4 (fun r8 σ7 => (r8 = 0 → none = (none : Option Value) ∧ Φ (su σ7 168 (upd (σ7 168) 13 1))) ∧ (¬ r8 = 0 → (8 ≤ (σ7 168 14) → none = (none : Option Value) ∧ Φ (su σ7 168 (upd (σ7 168) 13 1))) ∧ (¬ 8 ≤ (σ7 168 14) → vt_Mv g 2 D_X12_next [.ref (g.2.1 168)] (su σ7 168 (upd (σ7 168) 14 ((σ7 168 14) + 1))) (fun σ11 => vt_Mv g d D_X12_either [.ref (g.2.1 168)] σ11 (fun σ12 => vt_Mi g 0 D_X12_isSign [.ref (g.2.1 168), .int 41] σ12 (fun r14 σ13 => vt_Mv g 3 D_X12_need [.ref (g.2.1 168), .int r14] σ13 (fun σ15 => none = (none : Option Value) ∧ Φ (su σ15 168 (upd (σ15 168) 14 ((σ15 168 14) - 1))))))))))) ∧ (¬ r5 = 0 → (8 ≤ (σ4 168 15) → vt_Mi g 0 D_X12_isSign [.ref (g.2.1 168), .int 40] σ4 (fun r18 σ17 => (r18 = 0 → none = (none : Option Value) ∧ Φ (su σ17 168 (upd (σ17 168) 13 1))) ∧ (¬ r18 = 0 → (8 ≤ (σ17 168 14) → none = (none : Option Value) ∧ Φ (su σ17 168 (upd (σ17 168) 13 1))) ∧ (¬ 8 ≤ (σ17 168 14) → vt_Mv g 2 D_X12_next [.ref (g.2.1 168)] (su σ17 168 (upd (σ17 168) 14 ((σ17 168 14) + 1))) (fun σ21 => vt_Mv g d D_X12_either [.ref (g.2.1 168)] σ21 (fun σ22 => vt_Mi g 0 D_X12_isSign [.ref (g.2.1 168), .int 41] σ22 (fun r24 σ23 => vt_Mv g 3 D_X12_need [.ref (g.2.1 168), .int r24] σ23 (fun σ25 => none = (none : Option Value) ∧ Φ (su σ25 168 (upd (σ25 168) 14 ((σ25 168 14) - 1))))))))))) ∧ (¬ 8 ≤ (σ4 168 15) → vt_Mv g 2 D_X12_next [.ref (g.2.1 168)] (su σ4 168 (upd (σ4 168) 15 ((σ4 168 15) + 1))) (fun σ26 => vt_Mv g d D_X12_part [.ref (g.2.1 168)] σ26 (fun σ27 => vt_Mv g 0 D_X12_put [.ref (g.2.1 168), .int 200009] (su σ27 168 (upd (σ27 168) 15 ((σ27 168 15) - 1))) (fun σ28 => none = (none : Option Value) ∧ Φ σ28))))))
/-- the tail is come to, but for numbers and names -/
theorem m_toTail (hL : L ≤ 132) (ht : ∀ i, i < L → t i < 256) (hk : okT t L k) {cs : List Int32} (h : MS t L υ k cs p b n) (h2 : ¬ k.2.2 = 2) (h1 : ¬ (k.2.2 = 1 ∧ tokL t k.1 k.2.1 = -4)) {d : Nat} (hd : 9 ≤ d) (Φ : vt_Sg → Prop) (H : TLM g d υ Φ) : vt_Mv g (d + 1) D_X12_part [.ref (g.2.1 168)] υ Φ := by
  obtain ⟨⟨a1, a2⟩, ⟨a3, a4, a5⟩, ⟨a6, a7, a8⟩, a9, a10, a11⟩ := h
  obtain ⟨o1, o2, o3, o4, o5, o6, o7⟩ := hk
  refine mV ok_X12_part.1 rfl rfl rfl (s_X12_part_0 g υ _ d hd ?_)
  rw [a5]
  refine ⟨fun _ => ⟨fun _ => ⟨fun _ => H, fun c => ?_⟩, fun c => absurd (nI_inj (b := 2) c (by omega) (by omega)) h2⟩, fun c => absurd a6 c⟩
  have c1 : k.2.2 = 1 := nI_inj (b := 1) c (by omega) (by omega)
  rw [a3, a4, pk_sub o1]
  refine ⟨fun _ => H, fun c => ?_⟩
  have e1 : k.2.1 - k.1 = 1 := nI_inj (b := 1) c (by omega) (by omega)
  refine ⟨inN (by omega) (by omega), ?_⟩
  rw [nI_clamp (by omega), a2 k.1 (by omega)]
  refine c_indexOf (si := 5) (bs := namesB) rfl (by decide) _ ⟨fun _ => H, fun c => ?_⟩
  exfalso
  refine h1 ⟨c1, ?_⟩
  unfold tokL
  rw [if_pos ⟨by omega, c⟩]
theorem part_num (hL : L ≤ 132) (ht : ∀ i, i < L → t i < 256) (hk : okT t L k) (c : k.2.2 = 2) : PA t L (XP g b n) (MP g b n) k b n := by
  obtain ⟨o1, o2, o3, o4, o5, o6, o7⟩ := id hk
  have lt := o5 (by omega)
  have dg := o7 c
  obtain ⟨n1, n2⟩ := nxt_ok hk
  obtain ⟨f1, f2⟩ := num_lf (t := t) (fr := k.1) (i := k.2.1 - k.1) (fun j a b => dg.2 j a (by omega)) (by omega)
  refine ⟨true, nxt t L k, [dgv t k.1 (k.2.1 - k.1)], 1, fun _ => ⟨n1, by show 1 + k.1 ≤ _; omega, Nat.le_refl _, Nat.le_refl _, wf_leaf f1⟩, by have := n1.1; have := n1.2.1; omega, ?_, ?_⟩
  · intro τ es p hX he Φ H d hd
    obtain ⟨d, rfl⟩ : ∃ d', d = d' + 1 := ⟨d - 1, by unfold bM at hd; omega⟩
    have t7 : τ 107 7 = -3 := hX.2.1.2.2.trans (tok_2 c)
    refine mI ok_X8_part.1 rfl rfl rfl (s_X8_part_0 g τ _ d (by unfold bM at hd; omega) (nI b) (nI n) ?_)
    rw [t7, hX.2.2.1 c]
    refine ⟨fun _ => x_emit hX (by omega) _ (fun τ1 g1 X1 => ?_), fun z => absurd rfl z⟩
    obtain ⟨X2, g2⟩ := X1.leaf
    exact x_adv hL ht hk (fun z => by omega) X2 _ (fun τ3 g3 X3 => ⟨_, rfl, H τ3 (g1.tr (g2.tr g3)) (fun _ => X3) (fun z => (by cases z))⟩)
  · intro υ cs p hM hc Φ H d hd
    obtain ⟨d, rfl⟩ : ∃ d', d = d' + 1 := ⟨d - 1, by unfold bM at hd; omega⟩
    obtain ⟨⟨a1, a2⟩, ⟨a3, a4, a5⟩, ⟨a6, a7, a8⟩, a9, a10, a11⟩ := id hM
    refine mV ok_X12_part.1 rfl rfl rfl (s_X12_part_0 g υ _ d (by unfold bM at hd; omega) ?_)
    rw [a5, c, a3]
    refine ⟨fun _ => ⟨fun z => absurd rfl z, fun _ => ?_⟩, fun z => absurd a6 z⟩
    have key : ∀ m i, i + m = k.2.1 - k.1 → TT g (vt_R (d + 1)) 0 0 D_X12_part none 23 [some (.ref (g.2.1 168)), some (.int (dgv t k.1 i)), some (.int (nI (k.1 + i)))] [] υ (fun v σ' => v = none ∧ Φ σ') := by
      intro m
      induction m with
      | zero =>
        intro i hi
        have : i = k.2.1 - k.1 := hi
        subst this
        refine s_X12_part_23 g υ _ d (by unfold bM at hd; omega) _ _ ?_
        rw [a4]
        refine ⟨fun _ => m_put hM (by omega) _ (fun υ1 g1 M1 => ?_), fun z => absurd (nI_le (by omega) (by omega)) z⟩
        have M2 := M1.up (j := 18) (x := υ1 168 18 + 1) (p' := p + 1) (b' := b) (n' := n) (by omega) (by rw [upd_ne (by omega)]; exact M1.2.2.1.2.1) (by rw [upd_ne (by omega)]; exact M1.2.2.1.2.2) (by rw [upd_same, M1.2.2.2.2.2, nI_1])
        refine m_next hL ht hk M2 _ (fun υ3 g3 M3 => ⟨rfl, H υ3 (g1.tr ((FrM.up (by omega)).tr g3)) (fun _ => ?_) (fun z => (by cases z))⟩)
        rw [List.map_cons, List.map_nil, f2]; exact M3
      | succ m ih =>
        intro i hi
        refine s_X12_part_23 g υ _ d (by unfold bM at hd; omega) _ _ ?_
        rw [a4, nI_clamp (by omega), a2 (k.1 + i) (by omega), nI_1, Int32.mul_comm]
        exact ⟨fun z => absurd z (nI_ge (by omega) (by omega)), fun _ => ⟨inN (by omega) (by omega), ih (i + 1) (by omega)⟩⟩
    exact key (k.2.1 - k.1) 0 (by omega)
theorem part_name (hL : L ≤ 132) (ht : ∀ i, i < L → t i < 256) (hk : okT t L k) (c : k.2.2 = 1) (c4 : tokL t k.1 k.2.1 = -4) : PA t L (XP g b n) (MP g b n) k b n := by
  obtain ⟨o1, o2, o3, o4, o5, o6, o7⟩ := id hk
  have lt := o5 (by omega)
  obtain ⟨n1, n2⟩ := nxt_ok hk
  have cc : k.2.1 = k.1 + 1 ∧ ¬ ixF (nI (t k.1)) namesB 0 < 0 := by
    unfold tokL at c4
    by_cases z : k.2.1 = k.1 + 1 ∧ ¬ ixF (nI (t k.1)) namesB 0 < 0
    · exact z
    · rw [if_neg z] at c4
      exfalso
      by_cases y : wmt t baseB k.1 k.2.1 = true
      · rw [if_pos y] at c4; exact absurd c4 (by decide)
      · rw [if_neg y] at c4
        by_cases y : wmt t turnB k.1 k.2.1 = true
        · rw [if_pos y] at c4; exact absurd c4 (by decide)
        · rw [if_neg y] at c4
          by_cases y : wmt t leaveB k.1 k.2.1 = true
          · rw [if_pos y] at c4; exact absurd c4 (by decide)
          · rw [if_neg y] at c4; exact absurd c4 (by decide)
  obtain ⟨f1, f2⟩ := nm_c (t k.1) (ht k.1 (by omega)) cc.2
  refine ⟨true, nxt t L k, [-(nI (t k.1))], 1, fun _ => ⟨n1, by show 1 + k.1 ≤ _; omega, Nat.le_refl _, Nat.le_refl _, wf_leaf f1⟩, by have := n1.1; have := n1.2.1; omega, ?_, ?_⟩
  · intro τ es p hX he Φ H d hd
    obtain ⟨d, rfl⟩ : ∃ d', d = d' + 1 := ⟨d - 1, by unfold bM at hd; omega⟩
    have t7 : τ 107 7 = -4 := hX.2.1.2.2.trans ((tok_1 c).trans c4)
    refine mI ok_X8_part.1 rfl rfl rfl (s_X8_part_0 g τ _ d (by unfold bM at hd; omega) (nI b) (nI n) ?_)
    rw [t7, hX.2.2.2.1 c c4]
    refine ⟨fun z => absurd z (by decide), fun _ => ⟨fun z => absurd rfl z, fun _ => x_emit hX (by omega) _ (fun τ1 g1 X1 => ?_)⟩⟩
    obtain ⟨X2, g2⟩ := X1.leaf
    exact x_adv hL ht hk (fun z => by rw [z.2] at c4; exact absurd c4 (by decide)) X2 _ (fun τ3 g3 X3 => ⟨_, rfl, H τ3 (g1.tr (g2.tr g3)) (fun _ => X3) (fun z => (by cases z))⟩)
  · intro υ cs p hM hc Φ H d hd
    obtain ⟨d, rfl⟩ : ∃ d', d = d' + 1 := ⟨d - 1, by unfold bM at hd; omega⟩
    obtain ⟨⟨a1, a2⟩, ⟨a3, a4, a5⟩, ⟨a6, a7, a8⟩, a9, a10, a11⟩ := id hM
    refine mV ok_X12_part.1 rfl rfl rfl (s_X12_part_0 g υ _ d (by unfold bM at hd; omega) ?_)
    rw [a5, c, a3, a4, pk_sub o1, cc.1, Nat.add_sub_cancel_left, nI_clamp (by omega), a2 k.1 (by omega)]
    refine ⟨fun _ => ⟨fun _ => ⟨fun z => absurd rfl z, fun _ => ⟨fun z => absurd rfl z, fun _ => ⟨inN (by omega) (by omega), ?_⟩⟩⟩, fun z => absurd z (by decide)⟩, fun z => absurd a6 z⟩
    refine c_indexOf (si := 5) (bs := namesB) rfl (by decide) _ ⟨fun z => absurd z cc.2, fun _ => ?_⟩
    rw [a3, nI_clamp (by omega), a2 k.1 (by omega)]
    refine ⟨inN (by omega) (by omega), c_indexOf (si := 5) (bs := namesB) rfl (by decide) _ (m_put hM (by omega) _ (fun υ1 g1 M1 => ?_))⟩
    have M2 := M1.up (j := 18) (x := υ1 168 18 + 1) (p' := p + 1) (b' := b) (n' := n) (by omega) (by rw [upd_ne (by omega)]; exact M1.2.2.1.2.1) (by rw [upd_ne (by omega)]; exact M1.2.2.1.2.2) (by rw [upd_same, M1.2.2.2.2.2, nI_1])
    refine m_next hL ht hk M2 _ (fun υ3 g3 M3 => ⟨rfl, H υ3 (g1.tr ((FrM.up (by omega)).tr g3)) (fun _ => ?_) (fun z => (by cases z))⟩)
    rw [List.map_cons, List.map_nil, f2]; exact M3
/-- nothing that a part can begin with -/
theorem part_bad (hL : L ≤ 132) (ht : ∀ i, i < L → t i < 256) (hk : okT t L k) (hb : b ≤ 8) (hn : n ≤ 8) (c2 : ¬ k.2.2 = 2) (c1 : ¬ (k.2.2 = 1 ∧ tokL t k.1 k.2.1 = -4)) (c33 : ¬ (k.2.2 = 3 ∧ nI (t k.1) = 33 ∧ n < 8)) (c40 : ¬ (k.2.2 = 3 ∧ nI (t k.1) = 40 ∧ b < 8)) : PA t L (XP g b n) (MP g b n) k b n := by
  refine ⟨false, k, [], 0, fun z => (by cases z), by have := hk.1; have := hk.2.1; omega, ?_, ?_⟩
  · intro τ es p hX he Φ H d hd
    obtain ⟨d, rfl⟩ : ∃ d', d = d' + 1 := ⟨d - 1, by unfold bM at hd; omega⟩
    have t7 : τ 107 7 = tok t k := hX.2.1.2.2
    have fin := H τ (FrX.rf τ) (fun z => (by cases z)) (fun _ => hX.2.1.2.1)
    have e40 : tok t k = 40 → 8 ≤ nI b := fun z => nI_le (a := 8) (Nat.le_of_not_lt fun y => c40 ⟨((tok_sg hL ht hk (by decide)).mp z).1, ((tok_sg hL ht hk (by decide)).mp z).2, y⟩) (by omega)
    have e33 : tok t k = 33 → 8 ≤ nI n := fun z => nI_le (a := 8) (Nat.le_of_not_lt fun y => c33 ⟨((tok_sg hL ht hk (by decide)).mp z).1, ((tok_sg hL ht hk (by decide)).mp z).2, y⟩) (by omega)
    refine mI ok_X8_part.1 rfl rfl rfl (s_X8_part_0 g τ _ d (by unfold bM at hd; omega) (nI b) (nI n) ?_)
    rw [t7]
    exact ⟨fun z => absurd ((tok_m3 hL ht hk).mp z) c2, fun _ => ⟨fun _ => ⟨fun _ => ⟨fun _ => ⟨_, rfl, fin⟩, fun z => ⟨fun _ => ⟨_, rfl, fin⟩, fun y => absurd (e40 z) y⟩⟩, fun z => ⟨fun _ => ⟨fun _ => ⟨_, rfl, fin⟩, fun y => absurd (z.symm.trans y) (by decide)⟩, fun y => absurd (e33 z) y⟩⟩, fun z => absurd ((tok_m4 hL ht hk).mp z) c1⟩⟩
  · intro υ cs p hM hc Φ H d hd
    obtain ⟨d, rfl⟩ : ∃ d', d = d' + 1 := ⟨d - 1, by unfold bM at hd; omega⟩
    have fin : Φ (su υ 168 (upd (υ 168) 13 1)) := H _ (FrM.up (by omega)) (fun z => (by cases z)) (fun _ => hM.ft hL hk)
    have h14 : υ 168 14 = nI b := hM.2.2.1.2.1
    have h15 : υ 168 15 = nI n := hM.2.2.1.2.2
    refine m_toTail hL ht hk hM c2 c1 (by unfold bM at hd; omega) Φ ?_
    have forty : vt_Mi g 0 D_X12_isSign [.ref (g.2.1 168), .int 40] υ (fun r8 σ7 => (r8 = 0 → none = (none : Option Value) ∧ Φ (su σ7 168 (upd (σ7 168) 13 1))) ∧ (¬ r8 = 0 → (8 ≤ (σ7 168 14) → none = (none : Option Value) ∧ Φ (su σ7 168 (upd (σ7 168) 13 1))) ∧ (¬ 8 ≤ (σ7 168 14) → vt_Mv g 2 D_X12_next [.ref (g.2.1 168)] (su σ7 168 (upd (σ7 168) 14 ((σ7 168 14) + 1))) (fun σ11 => vt_Mv g d D_X12_either [.ref (g.2.1 168)] σ11 (fun σ12 => vt_Mi g 0 D_X12_isSign [.ref (g.2.1 168), .int 41] σ12 (fun r14 σ13 => vt_Mv g 3 D_X12_need [.ref (g.2.1 168), .int r14] σ13 (fun σ15 => none = (none : Option Value) ∧ Φ (su σ15 168 (upd (σ15 168) 14 ((σ15 168 14) - 1)))))))))) := by
      refine m_isSign hL hk hM _ (fun y1 y2 => ⟨fun z => absurd z (by decide), fun _ => ⟨fun _ => ⟨rfl, fin⟩, fun z => ?_⟩⟩) (fun _ => ⟨fun _ => ⟨rfl, fin⟩, fun z => absurd rfl z⟩)
      exfalso
      rw [h14] at z
      exact c40 ⟨y1, y2, Nat.lt_of_not_le (fun y => z (nI_le (a := 8) y (by omega)))⟩
    refine m_isSign hL hk hM _ (fun y1 y2 => ⟨fun z => absurd z (by decide), fun _ => ⟨fun _ => forty, fun z => ?_⟩⟩) (fun _ => ⟨fun _ => forty, fun z => absurd rfl z⟩)
    exfalso
    rw [h15] at z
    exact c33 ⟨y1, y2, Nat.lt_of_not_le (fun y => z (nI_le (a := 8) y (by omega)))⟩
theorem part_bang (hL : L ≤ 132) (ht : ∀ i, i < L → t i < 256) (hk : okT t L k) (hb : b ≤ 8) (c3 : k.2.2 = 3) (c33 : nI (t k.1) = 33) (hn : n < 8) (IH : PA t L (XP g b (n + 1)) (MP g b (n + 1)) (nxt t L k) b (n + 1)) : PA t L (XP g b n) (MP g b n) k b n := by
  obtain ⟨n1, n2⟩ := nxt_ok hk
  have lt := hk.2.2.2.2.1 (by omega)
  obtain ⟨ok, k', e, kk, h1, h2, h3, h4⟩ := IH
  refine ⟨ok, k', e ++ [-33], kk, fun z => ?_, h2, ?_, ?_⟩
  · obtain ⟨q1, q2, q3, q4, q5⟩ := h1 z
    refine ⟨q1, ?_, ?_, q4, wf_bang q5⟩
    · rw [List.length_append]; show e.length + 1 + k.1 ≤ k'.1; omega
    · rw [List.length_append]; omega
  · intro τ es p hX he Φ H d hd
    obtain ⟨d, rfl⟩ : ∃ d', d = d' + 1 := ⟨d - 1, by unfold bM at hd; omega⟩
    have t7 : τ 107 7 = 33 := hX.2.1.2.2.trans ((tok_3 c3).trans c33)
    refine mI ok_X8_part.1 rfl rfl rfl (s_X8_part_0 g τ _ d (by unfold bM at hd; omega) (nI b) (nI n) ?_)
    rw [t7]
    refine ⟨fun z => absurd z (by decide), fun _ => ⟨fun _ => ⟨fun z => absurd rfl z, fun _ => ⟨fun z => absurd z (nI_ge (b := 8) hn (by omega)), fun _ => x_adv hL ht hk (fun z => by omega) hX _ (fun τ1 g1 X1 => ?_)⟩⟩, fun z => absurd z (by decide)⟩⟩
    rw [nI_1]
    refine h3 τ1 es p X1 (by omega) _ (fun τ2 g2 t2 n2' => ?_) d (by unfold bM at hd ⊢; omega)
    cases z : ok with
    | true =>
      obtain ⟨q1, q2, q3, q4, q5⟩ := h1 z
      have qL := q1.1
      have qL2 := q1.2.1
      refine ⟨fun _ => x_emit (t2 z) (by rw [List.length_append]; omega) _ (fun τ3 g3 X3 => ⟨_, rfl, ?_⟩), fun y => absurd y (by decide)⟩
      have F := H τ3 (g1.tr (g2.tr g3)) (fun _ => by rw [← List.append_assoc]; exact X3) (fun y => (by rw [z] at y; cases y))
      rw [z] at F; exact F
    | false =>
      have F := H τ2 (g1.tr g2) (fun y => (by rw [z] at y; cases y)) n2'
      rw [z] at F
      exact ⟨fun y => absurd rfl y, fun _ => ⟨_, rfl, F⟩⟩
  · intro υ cs p hM hc Φ H d hd
    obtain ⟨d, rfl⟩ : ∃ d', d = d' + 1 := ⟨d - 1, by unfold bM at hd; omega⟩
    have h15 : υ 168 15 = nI n := hM.2.2.1.2.2
    refine m_toTail hL ht hk hM (by omega) (fun z => by omega) (by unfold bM at hd; omega) Φ ?_
    refine m_isSign hL hk hM _ (fun _ _ => ⟨fun z => absurd z (by decide), fun _ => ⟨fun z => ?_, fun _ => ?_⟩⟩) (fun z => absurd ⟨c3, c33⟩ z)
    · exfalso
      rw [h15] at z
      exact absurd z (nI_ge (b := 8) hn (by omega))
    have M0 := hM.up (j := 15) (x := υ 168 15 + 1) (p' := p) (b' := b) (n' := n + 1) (by omega) (by rw [upd_ne (by omega)]; exact hM.2.2.1.2.1) (by rw [upd_same, h15, nI_1]) (by rw [upd_ne (by omega)]; exact hM.2.2.2.2.2)
    refine m_next hL ht hk M0 _ (fun υ1 g1 M1 => h4 υ1 cs p M1 (by omega) _ (fun υ2 g2 t2 n2' => ?_) d (by unfold bM at hd ⊢; omega))
    have g0 : FrM υ υ2 := (FrM.up (by omega)).tr (g1.tr g2)
    cases z : ok with
    | true =>
      have M2 := t2 z
      have M3 := M2.up (j := 15) (x := υ2 168 15 - 1) (p' := p + kk) (b' := b) (n' := n) (by omega) (by rw [upd_ne (by omega)]; exact M2.2.2.1.2.1) (by rw [upd_same, M2.2.2.1.2.2, nI_pred]) (by rw [upd_ne (by omega)]; exact M2.2.2.2.2.2)
      obtain ⟨q1, q2, q3, q4, q5⟩ := h1 z
      have qL := q1.1
      have qL2 := q1.2.1
      refine m_put M3 (by rw [List.length_append, List.length_map]; omega) _ (fun υ4 g4 M4 => ⟨rfl, H υ4 (g0.tr ((FrM.up (by omega)).tr g4)) (fun _ => ?_) (fun y => (by rw [z] at y; cases y))⟩)
      rw [List.map_append, ← List.append_assoc]
      show MS t L υ4 k' (cs ++ e.map tr ++ [tr (-33)]) (p + kk) b n
      rw [tr_33]; exact M4
    | false =>
      have w := n2' z
      exact m_putF (by rw [su_same, upd_ne (by omega), w.1]; decide) _ ⟨rfl, H _ (g0.tr (FrM.up (by omega))) (fun y => (by rw [z] at y; cases y)) (fun _ => w.up (by omega))⟩
theorem part_open (hL : L ≤ 132) (ht : ∀ i, i < L → t i < 256) (hk : okT t L k) (hn : n ≤ 8) (c3 : k.2.2 = 3) (c40 : nI (t k.1) = 40) (hb : b < 8) (IH : PA t L (XE g 0 (b + 1) n) (ME g 0 (b + 1) n) (nxt t L k) (b + 1) n) : PA t L (XP g b n) (MP g b n) k b n := by
  obtain ⟨n1, n2⟩ := nxt_ok hk
  have lt := hk.2.2.2.2.1 (by omega)
  obtain ⟨ok, k', e, kk, h1, h2, h3, h4⟩ := IH
  -- the component, up to the bracket that closes
  have XX : ∀ τ es p, XS t L τ k es p → es.length ≤ k.1 → ∀ Φ : Int32 → vt_Sg → Prop, (∀ τ', FrX τ τ' → (ok = true → XS t L τ' k' (es ++ e) (p + kk)) → (ok = false → τ' 107 8 = nI k'.1) → (ok = false → Φ 0 τ') ∧ (ok = true → (τ' 107 7 = 41 → vt_Mv g 8 D_X8_advance [.ref (g.2.1 107)] τ' (fun σ13 => Φ 1 σ13)) ∧ (¬ τ' 107 7 = 41 → Φ 0 τ'))) → XP g b n τ Φ := by
    intro τ es p hX he Φ H d hd
    obtain ⟨d, rfl⟩ : ∃ d', d = d' + 1 := ⟨d - 1, by unfold bM at hd; omega⟩
    have t7 : τ 107 7 = 40 := hX.2.1.2.2.trans ((tok_3 c3).trans c40)
    refine mI ok_X8_part.1 rfl rfl rfl (s_X8_part_0 g τ _ d (by unfold bM at hd; omega) (nI b) (nI n) ?_)
    rw [t7]
    refine ⟨fun z => absurd z (by decide), fun _ => ⟨fun _ => ⟨fun _ => ⟨fun z => absurd rfl z, fun _ => ⟨fun z => absurd z (nI_ge (b := 8) hb (by omega)), fun _ => x_adv hL ht hk (fun z => by omega) hX _ (fun τ1 g1 X1 => ?_)⟩⟩, fun z => absurd z (by decide)⟩, fun z => absurd z (by decide)⟩⟩
    rw [nI_1]
    refine h3 τ1 es p X1 (by omega) _ (fun τ2 g2 t2 n2' => ?_) d (by unfold bM at hd ⊢; omega)
    obtain ⟨H1, H2⟩ := H τ2 (g1.tr g2) t2 n2'
    cases z : ok with
    | true => exact ⟨fun y => absurd y (by decide), fun _ => ⟨fun y => ((H2 z).1 y).mono (fun _ w => ⟨_, rfl, w⟩), fun y => ⟨_, rfl, (H2 z).2 y⟩⟩⟩
    | false => exact ⟨fun _ => ⟨_, rfl, H1 z⟩, fun y => absurd rfl y⟩
  have MM : ∀ υ cs p, MS t L υ k cs p b n → cs.length ≤ k.1 + 3 → ∀ Φ : vt_Sg → Prop, (∀ υ', FrM υ υ' → (ok = true → MS t L υ' k' (cs ++ e.map tr) (p + kk) (b + 1) n) → (ok = false → FT υ' k'.1) → vt_Mi g 0 D_X12_isSign [.ref (g.2.1 168), .int 41] υ' (fun r14 σ13 => vt_Mv g 3 D_X12_need [.ref (g.2.1 168), .int r14] σ13 (fun σ15 => Φ (su σ15 168 (upd (σ15 168) 14 ((σ15 168 14) - 1)))))) → MP g b n υ Φ := by
    intro υ cs p hM hc Φ H d hd
    obtain ⟨d, rfl⟩ : ∃ d', d = d' + 1 := ⟨d - 1, by unfold bM at hd; omega⟩
    have h14 : υ 168 14 = nI b := hM.2.2.1.2.1
    refine m_toTail hL ht hk hM (by omega) (fun z => by omega) (by unfold bM at hd; omega) Φ ?_
    refine m_isSign hL hk hM _ (fun _ y => by rw [c40] at y; exact absurd y (by decide)) (fun _ => ⟨fun _ => ?_, fun z => absurd rfl z⟩)
    refine m_isSign hL hk hM _ (fun _ _ => ⟨fun z => absurd z (by decide), fun _ => ⟨fun z => ?_, fun _ => ?_⟩⟩) (fun z => absurd ⟨c3, c40⟩ z)
    · exfalso
      rw [h14] at z
      exact absurd z (nI_ge (b := 8) hb (by omega))
    have M0 := hM.up (j := 14) (x := υ 168 14 + 1) (p' := p) (b' := b + 1) (n' := n) (by omega) (by rw [upd_same, h14, nI_1]) (by rw [upd_ne (by omega)]; exact hM.2.2.1.2.2) (by rw [upd_ne (by omega)]; exact hM.2.2.2.2.2)
    refine m_next hL ht hk M0 _ (fun υ1 g1 M1 => h4 υ1 cs p M1 (by omega) _ (fun υ2 g2 t2 n2' => ?_) d (by unfold bM at hd ⊢; omega))
    exact vt_Mi.mono (H υ2 ((FrM.up (by omega)).tr (g1.tr g2)) t2 n2') (fun r σ' w => w.mono (fun _ w => ⟨rfl, w⟩))
  cases z : ok with
  | false =>
    refine ⟨false, k', [], 0, fun y => (by cases y), h2, ?_, ?_⟩
    · intro τ es p hX he Φ H
      exact XX τ es p hX he Φ (fun τ' g1 _ n1' => ⟨fun y => H τ' g1 (fun w => (by cases w)) (fun _ => n1' y), fun y => (by rw [z] at y; cases y)⟩)
    · intro υ cs p hM hc Φ H
      refine MM υ cs p hM hc Φ (fun υ' g1 _ n1' => ?_)
      have w := n1' z
      exact m_isSignF (by rw [w.1]; decide) _ (m_need0 w.again (Or.inl rfl) _ (fun υ3 g3 e1 => H _ (g1.tr (g3.tr (FrM.up (by omega)))) (fun w => (by cases w)) (fun _ => e1.up (by omega))))
  | true =>
    obtain ⟨q1, q2, q3, q4, q5⟩ := h1 z
    have qL := q1.1
    have qL2 := q1.2.1
    by_cases c41 : k'.2.2 = 3 ∧ nI (t k'.1) = 41
    · obtain ⟨m1, m2⟩ := nxt_ok q1
      have lt2 := q1.2.2.2.2.1 (by omega)
      have mL := m1.1
      have mL2 := m1.2.1
      refine ⟨true, nxt t L k', e, kk, fun _ => ⟨m1, by omega, q3, q4, q5⟩, by omega, ?_, ?_⟩
      · intro τ es p hX he Φ H
        refine XX τ es p hX he Φ (fun τ' g1 t1 _ => ⟨fun y => (by rw [z] at y; cases y), fun _ => ⟨fun _ => x_adv hL ht q1 (fun w => by omega) (t1 z) _ (fun τ3 g3 X3 => H τ3 (g1.tr g3) (fun _ => X3) (fun w => (by cases w))), fun y => ?_⟩⟩)
        exact absurd ((t1 z).2.1.2.2.trans ((tok_3 c41.1).trans c41.2)) y
      · intro υ cs p hM hc Φ H
        refine MM υ cs p hM hc Φ (fun υ' g1 t1 _ => ?_)
        have M1 := t1 z
        refine m_isSign hL q1 M1 _ (fun _ _ => m_need1 hL ht q1 M1 (by decide) _ (fun υ3 g3 M3 => H _ (g1.tr (g3.tr (FrM.up (by omega)))) (fun _ => ?_) (fun w => (by cases w)))) (fun w => absurd c41 w)
        exact M3.up (j := 14) (x := υ3 168 14 - 1) (p' := p + kk) (b' := b) (n' := n) (by omega) (by rw [upd_same, M3.2.2.1.2.1, nI_pred]) (by rw [upd_ne (by omega)]; exact M3.2.2.1.2.2) (by rw [upd_ne (by omega)]; exact M3.2.2.2.2.2)
    · refine ⟨false, k', [], 0, fun y => (by cases y), h2, ?_, ?_⟩
      · intro τ es p hX he Φ H
        refine XX τ es p hX he Φ (fun τ' g1 t1 _ => ⟨fun y => (by rw [z] at y; cases y), fun _ => ⟨fun y => ?_, fun _ => H τ' g1 (fun w => (by cases w)) (fun _ => (t1 z).2.1.2.1)⟩⟩)
        exact absurd ((tok_sg hL ht q1 (by decide)).mp ((t1 z).2.1.2.2.symm.trans y)) c41
      · intro υ cs p hM hc Φ H
        refine MM υ cs p hM hc Φ (fun υ' g1 t1 _ => ?_)
        have M1 := t1 z
        exact m_isSign hL q1 M1 _ (fun y1 y2 => absurd ⟨y1, y2⟩ c41) (fun _ => m_need0 (M1.ft hL q1) (Or.inl rfl) _ (fun υ3 g3 e1 => H _ (g1.tr (g3.tr (FrM.up (by omega)))) (fun w => (by cases w)) (fun _ => e1.up (by omega))))
/-- a part, by what it may hold -/
theorem part_all (hL : L ≤ 132) (ht : ∀ i, i < L → t i < 256) (hb : b ≤ 8) (hn : n ≤ 8) (IHn : n < 8 → ∀ k, okT t L k → PA t L (XP g b (n + 1)) (MP g b (n + 1)) k b (n + 1)) (IHb : b < 8 → ∀ k, okT t L k → PA t L (XE g 0 (b + 1) n) (ME g 0 (b + 1) n) k (b + 1) n) (hk : okT t L k) : PA t L (XP g b n) (MP g b n) k b n := by
  by_cases c2 : k.2.2 = 2
  · exact part_num hL ht hk c2
  · by_cases c1 : k.2.2 = 1 ∧ tokL t k.1 k.2.1 = -4
    · exact part_name hL ht hk c1.1 c1.2
    · by_cases c33 : k.2.2 = 3 ∧ nI (t k.1) = 33 ∧ n < 8
      · exact part_bang hL ht hk hb c33.1 c33.2.1 c33.2.2 (IHn c33.2.2 _ (nxt_ok hk).1)
      · by_cases c40 : k.2.2 = 3 ∧ nI (t k.1) = 40 ∧ b < 8
        · exact part_open hL ht hk hn c40.1 c40.2.1 c40.2.2 (IHb c40.2.2 _ (nxt_ok hk).1)
        · exact part_bad hL ht hk hb hn c2 c1 c33 c40
end PARA
