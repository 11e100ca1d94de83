/-! LEASES: the three words and what follows each -/
section PARC
variable {g : vt_GT} {σ τ υ : vt_Sg} {t : Nat → Nat} {L b n p : Nat} {k : TK}
def wB (w : Nat) : List Int32 := if w = 0 then baseB else if w = 1 then turnB else leaveB
def wS (w : Nat) : Nat := if w = 0 then 4 else if w = 1 then 7 else 8
theorem wmt_len {bs : List Int32} {fr to : Nat} (h : wmt t bs fr to = true) : to = fr + bs.length ∧ mtc t bs fr = true := by
  unfold wmt at h
  rw [Bool.and_eq_true, decide_eq_true_iff] at h
  exact h
theorem mtc_1 {x : Int32} {l : List Int32} {i : Nat} (h : mtc t (x :: l) i = true) : nI (t i) = x := by
  rw [mtc, Bool.and_eq_true, decide_eq_true_iff] at h
  exact h.1
theorem tok_wd' (hL : L ≤ 132) (ht : ∀ i, i < L → t i < 256) (hk : okT t L k) {w : Nat} (hw : w < 3) : tok t k = -5 - nI w ↔ (k.2.2 = 1 ∧ wmt t (wB w) k.1 k.2.1 = true) := by
  have n0 : ∀ w, w < 3 → ¬ (-1 : Int32) = -5 - nI w ∧ ¬ (-2 : Int32) = -5 - nI w ∧ ¬ (-3 : Int32) = -5 - nI w ∧ ¬ (-4 : Int32) = -5 - nI w ∧ (-5 - nI w < 0) := by decide +kernel
  obtain ⟨m1, m2, m3, m4, m5⟩ := n0 w hw
  have o3 := hk.2.2.1
  rcases (show k.2.2 = 0 ∨ k.2.2 = 1 ∨ k.2.2 = 2 ∨ k.2.2 = 3 ∨ k.2.2 = 4 by omega) with c | c | c | c | c
  · rw [tok_0 c]; exact ⟨fun z => absurd z m1, fun z => by omega⟩
  · rw [tok_1 c]
    have A : ∀ fr to, wmt t baseB fr to = true → to = fr + 4 ∧ nI (t fr) = 98 := fun fr to h => ⟨(wmt_len h).1, mtc_1 (wmt_len h).2⟩
    have B : ∀ fr to, wmt t turnB fr to = true → to = fr + 4 ∧ nI (t fr) = 116 := fun fr to h => ⟨(wmt_len h).1, mtc_1 (wmt_len h).2⟩
    have C : ∀ fr to, wmt t leaveB fr to = true → to = fr + 5 := fun fr to h => (wmt_len h).1
    have key : tokL t k.1 k.2.1 = -5 - nI w ↔ wmt t (wB w) k.1 k.2.1 = true := by
      unfold tokL
      by_cases c0 : k.2.1 = k.1 + 1 ∧ ¬ ixF (nI (t k.1)) namesB 0 < 0
      · rw [if_pos c0]
        refine ⟨fun z => absurd z m4, fun z => ?_⟩
        exfalso
        rcases (show w = 0 ∨ w = 1 ∨ w = 2 by omega) with rfl | rfl | rfl
        · have := (A _ _ z).1; omega
        · have := (B _ _ z).1; omega
        · have := C _ _ z; omega
      · rw [if_neg c0]
        by_cases c1 : wmt t baseB k.1 k.2.1 = true
        · rw [if_pos c1]
          rcases (show w = 0 ∨ w = 1 ∨ w = 2 by omega) with rfl | rfl | rfl
          · exact ⟨fun _ => c1, fun _ => by decide⟩
          · exact ⟨fun z => absurd z (by decide), fun z => absurd ((A _ _ c1).2.symm.trans (B _ _ z).2) (by decide)⟩
          · exact ⟨fun z => absurd z (by decide), fun z => absurd (C _ _ z) (by have := (A _ _ c1).1; omega)⟩
        · rw [if_neg c1]
          by_cases c2 : wmt t turnB k.1 k.2.1 = true
          · rw [if_pos c2]
            rcases (show w = 0 ∨ w = 1 ∨ w = 2 by omega) with rfl | rfl | rfl
            · exact ⟨fun z => absurd z (by decide), fun z => absurd z c1⟩
            · exact ⟨fun _ => c2, fun _ => by decide⟩
            · exact ⟨fun z => absurd z (by decide), fun z => absurd (C _ _ z) (by have := (B _ _ c2).1; omega)⟩
          · rw [if_neg c2]
            by_cases c3 : wmt t leaveB k.1 k.2.1 = true
            · rw [if_pos c3]
              rcases (show w = 0 ∨ w = 1 ∨ w = 2 by omega) with rfl | rfl | rfl
              · exact ⟨fun z => absurd z (by decide), fun z => absurd z c1⟩
              · exact ⟨fun z => absurd z (by decide), fun z => absurd z c2⟩
              · exact ⟨fun _ => c3, fun _ => by decide⟩
            · rw [if_neg c3]
              refine ⟨fun z => absurd z m2, fun z => ?_⟩
              exfalso
              rcases (show w = 0 ∨ w = 1 ∨ w = 2 by omega) with rfl | rfl | rfl
              · exact c1 z
              · exact c2 z
              · exact c3 z
    exact ⟨fun z => ⟨c, key.mp z⟩, fun z => key.mpr z.2⟩
  · rw [tok_2 c]; exact ⟨fun z => absurd z m3, fun z => by omega⟩
  · rw [tok_3 c]
    have := ht k.1 (by have := hk.2.2.2.2.1 (by omega); have := hk.2.1; omega)
    exact ⟨fun z => absurd m5 (by rw [← z]; exact nI_pos (by omega)), fun z => by omega⟩
  · rw [tok_4 c]; exact ⟨fun z => absurd z m2, fun z => by omega⟩
/-- a row holds these numbers from i on -/
def mtv (f : Nat → Int32) : List Int32 → Nat → Bool
  | [], _ => true
  | b :: l, i => decide (f i = b) && mtv f l (i + 1)
theorem mtv_t {f : Nat → Int32} : ∀ (l : List Int32) (i : Nat), (∀ j, i ≤ j → j < i + l.length → f j = nI (t j)) → mtv f l i = mtc t l i
  | [], _, _ => rfl
  | b :: l, i, h => by
    rw [List.length_cons] at h
    rw [mtv, mtc, h i (Nat.le_refl _) (by omega), mtv_t l (i + 1) (fun j a c => h j (by omega) (by omega))]
section WORD
variable {si sk : Nat} {so tx : String} {bs : List Int32}
/-- the reference's word: either it stands here, or a fault -/
theorem l_word (hs : vt_strs[si]? = some (so, sk, tx, bs)) {fr to : Nat} (h10 : υ 168 10 = nI fr) (h11 : υ 168 11 = nI to) (h1 : fr ≤ to) (h2 : to ≤ 132) (Φ : vt_Sg → Prop) (H1 : υ 168 12 = 1 → to = fr + bs.length → mtv (υ 171) bs fr = true → vt_Mv g 3 D_X12_need [.ref (g.2.1 168), .int 1] υ Φ) (H0 : ¬ (υ 168 12 = 1 ∧ to = fr + bs.length ∧ mtv (υ 171) bs fr = true) → vt_Mv g 3 D_X12_need [.ref (g.2.1 168), .int 0] υ Φ) : vt_Mv g 5 D_X12_word [.ref (g.2.1 168), .ref (g.2.2.2.2.1 si)] υ Φ := by
  obtain ⟨hb, _⟩ := strB hs
  have hb : bs.length < 100 := hb
  have zero : ∀ x3 : Int32, ¬ (υ 168 12 = 1 ∧ to = fr + bs.length ∧ mtv (υ 171) bs fr = true) → TT g (vt_R 5) 0 0 D_X12_word none 32 [some (.ref (g.2.1 168)), some (.ref (g.2.2.2.2.1 si)), some (.int 0), some (.int x3)] [] υ (fun v σ' => v = none ∧ Φ σ') := fun x3 z => s_X12_word_32 g υ _ si so sk tx bs hs 0 x3 ⟨fun _ => (H0 z).mono (fun _ w => ⟨rfl, w⟩), fun c => absurd rfl c⟩
  refine mV ok_X12_word.1 rfl rfl rfl (s_X12_word_0 g υ _ si so sk tx bs hs ⟨fun c => zero 0 (fun z => c z.1), fun c => c_length hs _ ?_⟩)
  rw [h10, h11, pk_sub h1]
  refine ⟨fun c2 => zero 0 (fun z => c2 (by rw [z.2.1, Nat.add_sub_cancel_left])), fun c2 => ?_⟩
  have e : to - fr = bs.length := nI_inj c2 (by omega) (by omega)
  have key : ∀ (l : List Int32) (i : Nat), bs.drop i = l → i ≤ bs.length → mtv (υ 171) bs fr = mtv (υ 171) l (fr + i) → TT g (vt_R 5) 0 0 D_X12_word none 32 [some (.ref (g.2.1 168)), some (.ref (g.2.2.2.2.1 si)), some (.int 1), some (.int (nI i))] [] υ (fun v σ' => v = none ∧ Φ σ') := by
    intro l
    induction l with
    | nil =>
      intro i hd hi em
      have hz : bs.length ≤ i := List.drop_eq_nil_iff.mp hd
      exact s_X12_word_32 g υ _ si so sk tx bs hs 1 (nI i) ⟨fun c => absurd c (by decide), fun _ => c_length hs _ ⟨fun _ => (H1 c (by omega) em).mono (fun _ w => ⟨rfl, w⟩), fun q => absurd (nI_le hz (by omega)) q⟩⟩
    | cons b l ih =>
      intro i hd hi em
      obtain ⟨a1, a2, a3, a4⟩ := sc_dropC hd
      refine s_X12_word_32 g υ _ si so sk tx bs hs 1 (nI i) ⟨fun c => absurd c (by decide), fun _ => c_length hs _ ⟨fun q => absurd q (nI_ge a1 (by omega)), fun _ => ?_⟩⟩
      rw [h10, nI_add]
      refine ⟨inN (by omega) (by omega), c_charAt hs a1 _ ?_⟩
      rw [nI_clamp (by omega), a2, nI_1]
      rw [mtv] at em
      refine ⟨fun q => zero _ (fun z => ?_), fun q => ih (i + 1) a3 (by omega) ?_⟩
      · rw [z.2.2, decide_eq_false q] at em; cases em
      · rw [decide_eq_true q] at em; exact em
  exact key bs 0 rfl (by omega) rfl
theorem m_word (hL : L ≤ 132) (ht : ∀ i, i < L → t i < 256) (hs : vt_strs[si]? = some (so, sk, tx, bs)) (hk : okT t L k) {cs : List Int32} (h : MS t L υ k cs p b n) (Φ : vt_Sg → Prop) (H1 : k.2.2 = 1 → wmt t bs k.1 k.2.1 = true → ∀ υ', FrM υ υ' → MS t L υ' (nxt t L k) cs p b n → Φ υ') (H0 : ¬ (k.2.2 = 1 ∧ wmt t bs k.1 k.2.1 = true) → ∀ υ', FrM υ υ' → FT υ' k.1 → Φ υ') : vt_Mv g 5 D_X12_word [.ref (g.2.1 168), .ref (g.2.2.2.2.1 si)] υ Φ := by
  obtain ⟨⟨a1, a2⟩, ⟨a3, a4, a5⟩, ⟨a6, a7, a8⟩, a9, a10, a11⟩ := id h
  have o2 := hk.2.1
  have c1 : υ 168 12 = 1 ↔ k.2.2 = 1 := by rw [a5]; exact ⟨fun z => nI_inj (b := 1) z (by have := hk.2.2.1; omega) (by omega), fun z => by rw [z]; rfl⟩
  have ew : k.2.1 = k.1 + bs.length → mtv (υ 171) bs k.1 = mtc t bs k.1 := fun z => mtv_t bs k.1 (fun j x y => a2 j (by omega))
  refine l_word hs a3 a4 hk.1 (by omega) Φ (fun z1 z2 z3 => m_need1 hL ht hk h (by decide) _ (H1 (c1.mp z1) ?_)) (fun z => m_need0 (h.ft hL hk) (Or.inl rfl) _ (H0 (fun y => z ⟨c1.mpr y.1, (wmt_len y.2).1, ?_⟩)))
  · unfold wmt
    rw [decide_eq_true z2, ← ew z2, z3]; rfl
  · rw [ew (wmt_len y.2).1]; exact (wmt_len y.2).2
theorem m_wordF (hs : vt_strs[si]? = some (so, sk, tx, bs)) {x : Nat} (h : FT υ x) (Φ : vt_Sg → Prop) (H : ∀ υ', FrM υ υ' → FT υ' x → Φ υ') : vt_Mv g 5 D_X12_word [.ref (g.2.1 168), .ref (g.2.2.2.2.1 si)] υ Φ := by
  obtain ⟨h1, h2, to, h3, h4, h5⟩ := id h
  exact l_word hs h2 h5 h4 h3 Φ (fun _ _ _ => m_need0 h.again (Or.inr (by rw [h1]; decide)) _ H) (fun _ => m_need0 h.again (Or.inl rfl) _ H)
end WORD
/-- behind a fault nothing is read -/
theorem m_eitherF (h : υ 168 13 = 1) (Φ : vt_Sg → Prop) (H : Φ υ) : vt_Mv g 120 D_X12_either [.ref (g.2.1 168)] υ Φ := by
  have nz : ¬ υ 168 13 = 0 := by rw [h]; decide
  have sg : ∀ (lo hi : Nat), lo ≤ hi → hi < 10 → ∀ Ψ : Int32 → vt_Sg → Prop, Ψ (-1) υ → vt_Mi g 5 D_X12_signHere [.ref (g.2.1 168), .int (nI lo), .int (nI hi)] υ Ψ := fun lo hi a c Ψ w => m_signHere (fun z => absurd z nz) a c Ψ (fun _ => w) (fun j _ _ s => absurd s.1 nz)
  have part : ∀ d, 9 ≤ d → ∀ Ψ : vt_Sg → Prop, Ψ υ → vt_Mv g (d + 1) D_X12_part [.ref (g.2.1 168)] υ Ψ := fun d hd Ψ w => mV ok_X12_part.1 rfl rfl rfl (s_X12_part_0 g υ _ d hd ⟨fun z => absurd z nz, fun _ => ⟨rfl, w⟩⟩)
  have term : ∀ d, 9 ≤ d → ∀ Ψ : vt_Sg → Prop, Ψ υ → vt_Mv g (d + 2) D_X12_term [.ref (g.2.1 168)] υ Ψ := fun d hd Ψ w => mV ok_X12_term.1 rfl rfl rfl (s_X12_term_0 g υ _ (d + 1) (by omega) (part d hd _ (sg 7 8 (by omega) (by omega) _ (s_X12_term_13 g υ _ (d + 1) (by omega) (-1) ⟨fun _ => ⟨rfl, w⟩, fun c => absurd (by decide) c⟩))))
  have sum : ∀ d, 9 ≤ d → ∀ Ψ : vt_Sg → Prop, Ψ υ → vt_Mv g (d + 3) D_X12_sum [.ref (g.2.1 168)] υ Ψ := fun d hd Ψ w => mV ok_X12_sum.1 rfl rfl rfl (s_X12_sum_0 g υ _ (d + 2) (by omega) (term d hd _ (sg 5 6 (by omega) (by omega) _ (s_X12_sum_12 g υ _ (d + 2) (by omega) (-1) ⟨fun _ => ⟨rfl, w⟩, fun c => absurd (by decide) c⟩))))
  have test : ∀ d, 9 ≤ d → ∀ Ψ : vt_Sg → Prop, Ψ υ → vt_Mv g (d + 4) D_X12_test [.ref (g.2.1 168)] υ Ψ := fun d hd Ψ w => mV ok_X12_test.1 rfl rfl rfl (s_X12_test_0 g υ _ (d + 3) (by omega) (sum d hd _ (sg 2 4 (by omega) (by omega) _ ⟨fun _ => ⟨rfl, w⟩, fun c => absurd (by decide) c⟩)))
  have both : ∀ d, 9 ≤ d → ∀ Ψ : vt_Sg → Prop, Ψ υ → vt_Mv g (d + 5) D_X12_both [.ref (g.2.1 168)] υ Ψ := fun d hd Ψ w => mV ok_X12_both.1 rfl rfl rfl (s_X12_both_0 g υ _ (d + 4) (by omega) (test d hd _ (s_X12_both_4 g υ _ (d + 4) (by omega) (sg 1 1 (by omega) (by omega) _ ⟨fun _ => ⟨rfl, w⟩, fun c => absurd (by decide) c⟩))))
  exact mV ok_X12_either.1 rfl rfl rfl (s_X12_either_0 g υ _ 119 (by omega) (both 114 (by omega) _ (s_X12_either_4 g υ _ 119 (by omega) (sg 0 0 (by omega) (by omega) _ ⟨fun _ => ⟨rfl, H⟩, fun c => absurd (by decide) c⟩))))
/-- a word and its part, on the component's side -/
abbrev XW (g : vt_GT) (w : Nat) : vt_Sg → (Int32 → vt_Sg → Prop) → Prop := fun τ Φ => (τ 107 7 = -5 - nI w → vt_Mv g 8 D_X8_advance [.ref (g.2.1 107)] τ (fun σ4 => vt_Mi g 120 D_X8_expression [.ref (g.2.1 107), .int 0, .int 0, .int 0] σ4 (fun r6 σ5 => Φ r6 σ5))) ∧ (¬ τ 107 7 = -5 - nI w → Φ 0 τ)
abbrev MW (g : vt_GT) (w : Nat) : vt_Sg → (vt_Sg → Prop) → Prop := fun υ Φ => vt_Mv g 5 D_X12_word [.ref (g.2.1 168), .ref (g.2.2.2.2.1 (wS w))] υ (fun σ2 => vt_Mv g 120 D_X12_either [.ref (g.2.1 168)] σ2 (fun σ3 => Φ σ3))
theorem sec_all (hL : L ≤ 132) (ht : ∀ i, i < L → t i < 256) {w : Nat} (hw : w < 3) (hk : okT t L k) : PA t L (XW g w) (MW g w) k 0 0 := by
  have hs : ∃ so sk tx, vt_strs[wS w]? = some (so, sk, tx, wB w) := by
    rcases (show w = 0 ∨ w = 1 ∨ w = 2 by omega) with rfl | rfl | rfl
    · exact ⟨_, _, _, rfl⟩
    · exact ⟨_, _, _, rfl⟩
    · exact ⟨_, _, _, rfl⟩
  obtain ⟨so, sk, tx, hs⟩ := hs
  have tw := tok_wd' hL ht hk hw
  by_cases c : k.2.2 = 1 ∧ wmt t (wB w) k.1 k.2.1 = true
  · have lt := hk.2.2.2.2.1 (by omega)
    obtain ⟨n1, n2⟩ := nxt_ok hk
    have tk := tw.mpr c
    have us : use t k := fun z => by
      rw [tok_1 c.1, z.2] at tk
      have n0 : ∀ w, w < 3 → ¬ (-2 : Int32) = -5 - nI w := by decide +kernel
      exact n0 w hw tk
    obtain ⟨ok, k', e, kk, h1, h2, h3, h4⟩ := (par_all (g := g) hL ht 64 0 0 (by omega) (by omega) (by omega)).2 _ n1
    refine ⟨ok, k', e, kk, fun z => ?_, h2, ?_, ?_⟩
    · obtain ⟨q1, q2, q3, q4⟩ := h1 z
      exact ⟨q1, by omega, q3, q4⟩
    · intro τ es p hX he Φ H
      refine ⟨fun _ => x_adv hL ht hk us hX _ (fun τ1 g1 X1 => h3 τ1 es p X1 (by omega) _ (fun τ2 g2 t2 f2 => H τ2 (g1.tr g2) t2 f2) 120 (by unfold bM; omega)), fun z => absurd (hX.2.1.2.2.trans tk) z⟩
    · intro υ cs p hM hc Φ H
      exact m_word hL ht hs hk hM _ (fun _ _ υ1 g1 M1 => h4 υ1 cs p M1 (by omega) _ (fun υ2 g2 t2 f2 => H υ2 (g1.tr g2) t2 f2) 120 (by unfold bM; omega)) (fun z => absurd c z)
  · refine ⟨false, k, [], 0, fun z => (by cases z), by have := hk.1; have := hk.2.1; omega, ?_, ?_⟩
    · intro τ es p hX he Φ H
      exact ⟨fun z => absurd (tw.mp (hX.2.1.2.2.symm.trans z)) c, fun _ => H τ (FrX.rf τ) (fun z => (by cases z)) (fun _ => hX.2.1.2.1)⟩
    · intro υ cs p hM hc Φ H
      exact m_word hL ht hs hk hM _ (fun z1 z2 => absurd ⟨z1, z2⟩ c) (fun _ υ1 g1 f1 => m_eitherF f1.1 _ (H υ1 g1 (fun z => (by cases z)) (fun _ => f1)))
theorem m_secF {w : Nat} (hw : w < 3) {x : Nat} (h : FT υ x) (Φ : vt_Sg → Prop) (H : ∀ υ', FrM υ υ' → FT υ' x → Φ υ') : MW g w υ Φ := by
  have hs : ∃ so sk tx, vt_strs[wS w]? = some (so, sk, tx, wB w) := by
    rcases (show w = 0 ∨ w = 1 ∨ w = 2 by omega) with rfl | rfl | rfl
    · exact ⟨_, _, _, rfl⟩
    · exact ⟨_, _, _, rfl⟩
    · exact ⟨_, _, _, rfl⟩
  obtain ⟨so, sk, tx, hs⟩ := hs
  exact m_wordF hs h _ (fun υ1 g1 f1 => m_eitherF f1.1 _ (H υ1 g1 f1))
end PARC
