/-! MIXES: the reference's search -/
section MIXM
variable {g : vt_GT} {σ υ : vt_Sg} {so ne ki pu lu sp ak : Nat → Int32} {A Q : Nat → Option Nat} {ns n m p s : Nat} {w : Int32}
theorem c_X12_isTaken (hst : ∀ s, s < 12 → υ 175 s = opM (A s)) (hA : inj12 A) (hp : p < 12) (Φ : Int32 → vt_Sg → Prop) (h1 : (∀ o, A o ≠ some p) → Φ 0 υ) (h2 : (∃ o, A o = some p) → Φ 1 υ) : vt_Mi g 1 D_X12_isTaken [.ref (g.2.1 168), .int (nI p)] υ Φ := by
  refine mI ok_X12_isTaken.1 rfl rfl rfl (s_X12_isTaken_0 g υ _ (nI p) (c_X12_shopAt (σ := υ) hst hA hp _ ?_))
  cases hb : Bf A 12 p with
  | none =>
    refine ⟨fun _ => ⟨_, rfl, h1 (fun o => ?_)⟩, fun c => absurd (show opM none < 0 by decide) c⟩
    rcases Nat.lt_or_ge o 12 with q | q
    · exact Bf_none hb o q
    · rw [hA.2.2 o q]; exact fun z => by cases z
  | some o => exact ⟨fun c => absurd c (nI_pos (by have := (Bf_some hb).1; omega)), fun _ => ⟨_, rfl, h2 ⟨o, (Bf_some hb).2⟩⟩⟩
theorem c_X12_mayPut (hns : ns ≤ 12) (hS : A_shops ns ki so pu lu ne sp ak (υ 169)) (h2 : υ 169 2 = nI ns) (hst : ∀ s, s < 12 → υ 175 s = opM (A s)) (hA : inj12 A) (hlt : ∀ s, ns ≤ s → A s = none) (hp : p < 12) (hs : s < 12) (hf : ∀ o, A o ≠ some p) (Φ : Int32 → vt_Sg → Prop) (h1 : mayP so ne ns A p s → Φ 1 υ) (h0 : ¬ mayP so ne ns A p s → Φ 0 υ) : vt_Mi g 2 D_X12_mayPut [.ref (g.2.1 168), .int (nI s), .int (nI p)] υ Φ := by
  refine mI ok_X12_mayPut.1 rfl rfl rfl (s_X12_mayPut_0 g υ _ (nI s) (nI p) ?_)
  have no : ¬ mayP so ne ns A p s → TT g (vt_R 2) 0 0 D_X12_mayPut none 28 [some (.ref (g.2.1 168)), some (.int (nI s)), some (.int (nI p)), some (.int 0), some (.int 0)] [] υ (fun v σ' => ∃ r, v = some (Value.int r) ∧ Φ r σ') := fun z => s_X12_mayPut_28 g υ _ _ _ _ _ ⟨fun c => absurd c (by decide), fun _ => ⟨fun _ => ⟨rfl, _, rfl, h0 z⟩, fun c => absurd rfl c⟩⟩
  rw [h2]
  refine ⟨fun c => no (fun z => absurd c (nI_ge z.1 (by omega))), fun c => ⟨inN hs (by omega), ?_⟩⟩
  rw [nI_clamp (by omega), hst s hs]
  have hsn : s < ns := by
    rcases Nat.lt_or_ge s ns with q | q
    · exact q
    · exact absurd (nI_le q (by omega)) c
  cases ha : A s with
  | some q => exact ⟨fun _ => no (fun z => by rw [z.2.1] at ha; cases ha), fun c => absurd (nI_pos' (by have := hA.2.1 s q ha; omega)) c⟩
  | none =>
    refine ⟨fun c => absurd c (by decide), fun _ => ?_⟩
    -- the loop over the others
    refine lpS 12 (fun i (_ : Unit) => TT g (vt_R 2) 0 0 D_X12_mayPut none 28 [some (.ref (g.2.1 168)), some (.int (nI s)), some (.int (nI p)), some (.int 1), some (.int (nI i))] [] υ (fun v σ' => ∃ r, v = some (Value.int r) ∧ Φ r σ')) (fun i _ => ∀ o q, o < i → A o = some q → rvl so ne s o (dst p q) = false) ?_ ?_ 0 () (by omega) (fun o q h => absurd h (by omega))
    · intro _ hi
      refine s_X12_mayPut_28 g υ _ _ _ _ _ ⟨fun _ => ⟨rfl, _, rfl, h1 ⟨hsn, ha, hf, fun o q e => ?_⟩⟩, fun c => absurd (show (12 : Int32) ≤ 12 from by decide) c⟩
      rcases Nat.lt_or_ge o 12 with z | z
      · exact hi o q z e
      · rw [hA.2.2 o z] at e; cases e
    · intro i _ hi hI ih
      refine s_X12_mayPut_28 g υ _ _ _ _ _ ⟨fun c => absurd c (nI_ge (b := 12) hi (by omega)), fun _ => ⟨fun c => absurd c (by decide), fun _ => ⟨fun c => ?_, fun c => ⟨inN hi (by omega), ?_⟩⟩⟩⟩
      · have : i = s := nI_inj c (by omega) (by omega)
        subst this
        rw [nI_1]
        refine ih () (fun o q ho e => ?_)
        by_cases z : o = i
        · subst z; rw [ha] at e; cases e
        · exact hI o q (by omega) e
      · rw [nI_clamp (by omega), hst i hi]
        cases hi' : A i with
        | none =>
          refine ⟨fun _ => ?_, fun c => absurd (show opM none < 0 by decide) c⟩
          rw [nI_1]
          refine ih () (fun o q ho e => ?_)
          by_cases z : o = i
          · subst z; rw [hi'] at e; cases e
          · exact hI o q (by omega) e
        | some q =>
          have hq := hA.2.1 i q hi'
          have hin : i < ns := by
            rcases Nat.lt_or_ge i ns with z | z
            · exact z
            · rw [hlt i z] at hi'; cases hi'
          refine ⟨fun c => absurd c (nI_pos (by omega)), fun _ => c_X12_breaks (σ := υ) hns hS hsn hin _ ?_⟩
          have eb := brk_d (so := so) (ne := ne) s i hp hq
          have eb : brk so ne s (nI p) i (opM (some q)) = rvl so ne s i (dst p q) := eb
          rw [eb, nI_1]
          cases hr : rvl so ne s i (dst p q) with
          | false =>
            refine ⟨fun c => absurd rfl c, fun _ => ih () (fun o q' ho e => ?_)⟩
            by_cases z : o = i
            · subst z; rw [hi'] at e; cases e; exact hr
            · exact hI o q' (by omega) e
          | true =>
            refine ⟨fun _ => ?_, fun c => absurd c (by decide)⟩
            have bad : ¬ mayP so ne ns A p s := fun z => by have := z.2.2.2 i q hi'; rw [hr] at this; cases this
            exact s_X12_mayPut_28 g υ _ _ _ _ _ ⟨fun _ => ⟨rfl, _, rfl, h0 bad⟩, fun _ => ⟨fun _ => ⟨rfl, _, rfl, h0 bad⟩, fun c => absurd rfl c⟩⟩
/-- the reference's world while it seeks -/
def PX (υ : vt_Sg) (st : StM) (A Q : Nat → Option Nat) : Prop := (υ 168 23 = st.2.1 ∧ υ 168 24 = st.2.2.1 ∧ υ 168 25 = nI st.1 ∧ υ 168 26 = 0) ∧ st.1 ≤ 50000 ∧ (∀ s, s < 12 → υ 175 s = opM (A s)) ∧ (∀ p, p < 12 → υ 179 p = opM (Q p)) ∧ ∀ q, st.2.2.2 = some q → ∀ p, p < 12 → υ 180 p = opM (q p)
/-- what it leaves as it was -/
def FX (υ υ' : vt_Sg) : Prop := (∀ k, k ≠ 168 → k ≠ 175 → k ≠ 179 → k ≠ 180 → υ' k = υ k) ∧ ∀ j, j < 23 ∨ 26 < j → υ' 168 j = υ 168 j
theorem FX.tr {a b c : vt_Sg} (h : FX a b) (k : FX b c) : FX a c := ⟨fun i a1 a2 a3 a4 => (k.1 i a1 a2 a3 a4).trans (h.1 i a1 a2 a3 a4), fun j hj => (k.2 j hj).trans (h.2 j hj)⟩
theorem FX.rf (a : vt_Sg) : FX a a := ⟨fun _ _ _ _ _ => rfl, fun _ _ => rfl⟩
theorem cmpS_t {Q : Nat → Option Nat} {w m : Int32} {st : StM} (h : st.2.1 < w ∨ (w = st.2.1 ∧ ¬ st.2.2.1 ≤ m)) : cmpS Q w m st = (st.1, w, m, some Q) := if_pos h
theorem cmpS_n {Q : Nat → Option Nat} {w m : Int32} {st : StM} (h : ¬ (st.2.1 < w ∨ (w = st.2.1 ∧ ¬ st.2.2.1 ≤ m))) : cmpS Q w m st = st := if_neg h
theorem c_X12_putFrom {wt : Nat → Nat → Int32} (hns : ns ≤ 12) (σ : vt_Sg) (hS : A_shops ns ki so pu lu ne sp ak (σ 169)) (h2 : σ 169 2 = nI ns) (hw : ∀ s p, s < ns → p < 12 → σ 169 (36 + 8 * s) * σ 169 (10 + p) / 100 = wt s p) :
    ∀ n, n ≤ 12 → ∀ d, 10 + n ≤ d → ∀ (A Q : Nat → Option Nat) (w : Int32) (m : Nat) (st : StM) (υ : vt_Sg), inj12 A → (∀ s, ns ≤ s → A s = none) → (∀ p, 12 - n ≤ p → Q p = none) → υ 169 = σ 169 → PX υ st A Q → ∀ Φ : vt_Sg → Prop,
      (∀ υ', FX υ υ' → (∀ s, s < 12 → υ' 175 s = opM (A s)) → ((pF (may so ne ns) wt n A Q w m st).1 = true → PX υ' (pF (may so ne ns) wt n A Q w m st).2 A Q) → ((pF (may so ne ns) wt n A Q w m st).1 = false → υ' 168 26 = 1) → Φ υ') →
      vt_Mv g d D_X12_putFrom [.ref (g.2.1 168), .int (nI (12 - n)), .int w, .int (nI m)] υ Φ := by
  intro n
  induction n with
  | zero =>
    intro _ d hd A Q w m st υ hA hlt hQ h9 ⟨⟨q1, q2, q3, q4⟩, q5, q6, q7, q8⟩ Φ h
    obtain ⟨d, rfl⟩ : ∃ d', d = d' + 1 := ⟨d - 1, by omega⟩
    refine mV ok_X12_putFrom.1 rfl rfl rfl (s_X12_putFrom_0 g υ _ d (by omega) _ w (nI m) ⟨fun c => absurd rfl c, fun _ => ?_⟩)
    have e : pF (may so ne ns) wt 0 A Q w m st = (true, cmpS Q w (nI m) st) := rfl
    rw [e] at h
    have W : (st.2.1 < w ∨ (w = st.2.1 ∧ ¬ st.2.2.1 ≤ nI m)) → TT g (vt_R (d + 1)) 0 0 D_X12_putFrom none 43 [some (.ref (g.2.1 168)), some (.int (nI (12 - 0))), some (.int w), some (.int (nI m)), some (.int 0)] [] (su (su υ 168 (upd (υ 168) 23 w)) 168 (upd (upd (υ 168) 23 w) 24 (nI m))) (fun v σ' => v = none ∧ Φ σ') := by
      intro c
      rw [cmpS_t c] at h
      rw [su_su]
      refine lpS 12 (fun i (τ : vt_Sg) => TT g (vt_R (d + 1)) 0 0 D_X12_putFrom none 43 [some (.ref (g.2.1 168)), some (.int (nI (12 - 0))), some (.int w), some (.int (nI m)), some (.int (nI i))] [] τ (fun v σ' => v = none ∧ Φ σ')) (fun i τ => (∀ k, k ≠ 180 → τ k = su υ 168 (upd (upd (υ 168) 23 w) 24 (nI m)) k) ∧ ∀ p, p < i → τ 180 p = opM (Q p)) ?_ ?_ 0 _ (by omega) ⟨fun _ _ => rfl, fun p hp => absurd hp (by omega)⟩
      · intro τ ⟨t1, t2⟩
        have e8 : τ 168 = upd (upd (υ 168) 23 w) 24 (nI m) := by rw [t1 168 (by omega), su_same]
        refine s_X12_putFrom_43 g τ _ d (by omega) _ _ _ _ ⟨fun _ => ⟨rfl, h τ ⟨fun k a1 a2 a3 a4 => by rw [t1 k a4, su_ne a1], fun j hj => by rw [e8, upd_ne (by omega), upd_ne (by omega)]⟩ (fun s hs => by rw [t1 175 (by omega), su_ne (by omega)]; exact q6 s hs) (fun _ => ⟨⟨?_, ?_, ?_, ?_⟩, q5, fun s hs => by rw [t1 175 (by omega), su_ne (by omega)]; exact q6 s hs, fun p hp => by rw [t1 179 (by omega), su_ne (by omega)]; exact q7 p hp, fun q e p hp => ?_⟩) (fun z => by cases z)⟩, fun c => absurd (show (12 : Int32) ≤ 12 from by decide) c⟩
        · rw [e8, upd_ne (by omega), upd_same]
        · rw [e8, upd_same]
        · rw [e8, upd_ne (by omega), upd_ne (by omega)]; exact q3
        · rw [e8, upd_ne (by omega), upd_ne (by omega)]; exact q4
        · cases e; exact t2 p hp
      · intro i τ hi ⟨t1, t2⟩ ih
        refine s_X12_putFrom_43 g τ _ d (by omega) _ _ _ _ ⟨fun c => absurd c (nI_ge (b := 12) hi (by omega)), fun _ => ⟨inN hi (by omega), ?_⟩⟩
        rw [nI_clamp (by omega), nI_1]
        refine ih _ ⟨fun k hk => by rw [su_ne hk]; exact t1 k hk, fun p hp => ?_⟩
        rw [su_same]
        by_cases z : p = i
        · subst z; rw [upd_same, t1 179 (by omega), su_ne (by omega)]; exact q7 p (by omega)
        · rw [upd_ne z]; exact t2 p (by omega)
    have N : ¬ (st.2.1 < w ∨ (w = st.2.1 ∧ ¬ st.2.2.1 ≤ nI m)) → Φ υ := by
      intro c
      rw [cmpS_n c] at h
      exact h υ (FX.rf υ) q6 (fun _ => ⟨⟨q1, q2, q3, q4⟩, q5, q6, q7, q8⟩) (fun z => by cases z)
    rw [q1, q2]
    exact ⟨fun c => W (Or.inl c), fun c => ⟨fun c2 => ⟨rfl, N (fun z => z.elim c (fun y => c2 y.1))⟩, fun c2 => ⟨fun c3 => ⟨rfl, N (fun z => z.elim c (fun y => y.2 c3))⟩, fun c3 => W (Or.inr ⟨c2, c3⟩)⟩⟩⟩
  | succ n IH =>
    intro hn d hd A Q w m st υ hA hlt hQ h9 hX Φ h
    obtain ⟨d, rfl⟩ : ∃ d', d = d' + 1 := ⟨d - 1, by omega⟩
    have ep : 12 - (n + 1) = 11 - n := by omega
    have hp : 11 - n < 12 := by omega
    rw [ep]
    refine mV ok_X12_putFrom.1 rfl rfl rfl (s_X12_putFrom_0 g υ _ d (by omega) _ w (nI m) ⟨fun _ => ?_, fun c => absurd (nI_inj (b := 12) c (by omega) (by omega)) (by omega)⟩)
    rw [nI_1, show 11 - n + 1 = 12 - n by omega]
    refine IH (by omega) d (by omega) A Q w m st υ hA hlt (fun p hp => hQ p (by omega)) h9 hX _ (fun υ1 f1 a1 t1 n1 => ?_)
    -- the end of the loop once the tries are spent
    have spent : ∀ (υ2 : vt_Sg) (i : Nat), i ≤ 12 → FX υ υ2 → (∀ s, s < 12 → υ2 175 s = opM (A s)) → υ2 168 26 = 1 → (pF (may so ne ns) wt (n + 1) A Q w m st).1 = false → TT g (vt_R (d + 1)) 0 0 D_X12_putFrom none 83 [some (.ref (g.2.1 168)), some (.int (nI (11 - n))), some (.int w), some (.int (nI m)), some (.int (nI i))] [] υ2 (fun v σ' => v = none ∧ Φ σ') := by
      intro υ2 i hi f2 a2 s2 e
      have fin : Φ υ2 := h υ2 f2 a2 (fun z => by rw [e] at z; cases z) (fun _ => s2)
      refine s_X12_putFrom_83 g υ2 _ d (by omega) _ _ _ _ ⟨fun _ => ⟨rfl, fin⟩, fun _ => c_X12_isTaken a2 hA hp _ (fun _ => ⟨fun c => absurd rfl c, fun _ => ⟨fun _ => ⟨rfl, fin⟩, fun c => absurd (s2.symm.trans c) (by decide)⟩⟩) (fun _ => ⟨fun _ => ⟨rfl, fin⟩, fun c => absurd c (by decide)⟩)⟩
    cases e1 : (pF (may so ne ns) wt n A Q w m st).1 with
    | false => exact spent υ1 0 (by omega) f1 a1 (n1 e1) (pF_stop e1 1)
    | true =>
      have X1 := t1 e1
      have es := pF_s (my := may so ne ns) (wt := wt) e1
      rw [es] at h spent
      generalize hf : (fun s => pF (may so ne ns) wt n (upd0 A s (some (11 - n))) (upd0 Q (11 - n) (some s)) (w + wt s (11 - n)) (m + 1)) = f at h spent
      have ff : ∀ s st, f s st = pF (may so ne ns) wt n (upd0 A s (some (11 - n))) (upd0 Q (11 - n) (some s)) (w + wt s (11 - n)) (m + 1) st := fun s st => by rw [← hf]
      generalize (pF (may so ne ns) wt n A Q w m st).2 = st1 at h spent X1
      generalize hres : lpF f (may so ne ns A (11 - n)) 0 12 st1 = X at h spent
      have key : ∀ k i (st2 : StM) (υ2 : vt_Sg), i + k = 12 → FX υ υ2 → PX υ2 st2 A Q → lpF f (may so ne ns A (11 - n)) i k st2 = X → TT g (vt_R (d + 1)) 0 0 D_X12_putFrom none 83 [some (.ref (g.2.1 168)), some (.int (nI (11 - n))), some (.int w), some (.int (nI m)), some (.int (nI i))] [] υ2 (fun v σ' => v = none ∧ Φ σ') := by
        intro k
        induction k with
        | zero =>
          intro i st2 υ2 hi f2 X2 e
          have : i = 12 := hi
          subst this
          have e : (true, st2) = X := e
          subst e
          exact s_X12_putFrom_83 g υ2 _ d (by omega) _ _ _ _ ⟨fun _ => ⟨rfl, h υ2 f2 X2.2.2.1 (fun _ => X2) (fun z => by cases z)⟩, fun c => absurd (show (12 : Int32) ≤ 12 from by decide) c⟩
        | succ k ih =>
          intro i st2 υ2 hi f2 X2 e
          have e9 : υ2 169 = σ 169 := (f2.1 169 (by omega) (by omega) (by omega) (by omega)).trans h9
          obtain ⟨⟨q1, q2, q3, q4⟩, q5, q6, q7, q8⟩ := id X2
          refine s_X12_putFrom_83 g υ2 _ d (by omega) _ _ _ _ ⟨fun c => absurd c (nI_ge (b := 12) (by omega) (by omega)), fun _ => c_X12_isTaken q6 hA hp _ (fun free => ⟨fun c => absurd rfl c, fun _ => ⟨fun c => absurd q4 c, fun _ => ?_⟩⟩) (fun ⟨o, ho⟩ => ⟨fun _ => ?_, fun c => absurd c (by decide)⟩)⟩
          rotate_left
          · rw [lpF_none (k + 1) i st2 (fun j _ _ => may_f (fun z => z.2.2.1 o ho))] at e
            subst e
            exact ⟨rfl, h υ2 f2 q6 (fun _ => X2) (fun z => by cases z)⟩
          refine c_X12_mayPut (s := i) hns (by rw [e9]; exact hS) (by rw [e9]; exact h2) q6 hA hlt hp (by omega) free _ (fun my => ⟨fun _ => ?_, fun c => absurd c (by decide)⟩) (fun my => ⟨fun c => absurd rfl c, fun _ => ?_⟩)
          rotate_left
          · rw [nI_1]
            refine ih (i + 1) st2 υ2 (by omega) f2 X2 ?_
            rw [lpF, if_neg (by rw [may_f my]; decide)] at e
            exact e
          have hin : i < ns := my.1
          rw [lpF, if_pos (may_t.mpr my)] at e
          rw [q3]
          by_cases z0 : st2.1 = 0
          · rw [if_pos z0] at e
            refine ⟨fun c => absurd (by rw [z0]; rfl) c, fun _ => ⟨rfl, h _ ⟨fun k a1 a2 a3 a4 => ?_, fun j hj => ?_⟩ (fun s hs => ?_) (fun z => ?_) (fun _ => ?_)⟩⟩
            · rw [su_ne a1]; exact f2.1 k a1 a2 a3 a4
            · rw [su_same, upd_ne (by omega)]; exact f2.2 j hj
            · rw [su_ne (by omega)]; exact q6 s hs
            · rw [← e] at z; cases z
            · rw [su_same, upd_same]
          · rw [if_neg z0] at e
            have ea : (30 : Int32) + 8 * nI i + 6 = nI (30 + 8 * i + 6) := shop_ix (f := 6)
            have eb : (10 : Int32) + nI (11 - n) = nI (10 + (11 - n)) := nI_add 10 (11 - n)
            have ec : nI st2.1 - 1 = nI (st2.1 - 1) := by
              obtain ⟨u, hu⟩ : ∃ u, st2.1 = u + 1 := ⟨st2.1 - 1, by omega⟩
              rw [hu, nI_pred]; rfl
            refine ⟨fun _ => ⟨inN (by omega) (by omega), inN (by omega) (by omega), ?_⟩, fun c => absurd c (nI_ne0 (by omega) (by omega))⟩
            rw [ea, eb]
            refine ⟨inN (by omega) (by omega), inN (by omega) (by omega), ?_⟩
            rw [nI_clamp (by omega), nI_clamp (by omega), nI_clamp (by omega), nI_clamp (by omega), ec, e9, show 30 + 8 * i + 6 = 36 + 8 * i by omega, hw i (11 - n) hin hp, nI_1, nI_1, nI_1, show 11 - n + 1 = 12 - n by omega]
            have hA' := put_inj hA my hns hp
            have hlt' := put_lt hlt my
            have fe : f i (st2.1 - 1, st2.2) = pF (may so ne ns) wt n (upd0 A i (some (11 - n))) (upd0 Q (11 - n) (some i)) (w + wt i (11 - n)) (m + 1) (st2.1 - 1, st2.2) := ff _ _
            refine IH (by omega) d (by omega) (upd0 A i (some (11 - n))) (upd0 Q (11 - n) (some i)) (w + wt i (11 - n)) (m + 1) (st2.1 - 1, st2.2) _ hA' hlt' (fun p hp => by rw [upd0_ne (by omega)]; exact hQ p (by omega)) ?_ ⟨⟨?_, ?_, ?_, ?_⟩, ?_, ?_, ?_, ?_⟩ _ (fun υ3 f3 a3 t3 n3 => ?_)
            · rw [su_ne (by omega), su_ne (by omega), su_ne (by omega)]; exact e9
            · rw [su_ne (by omega), su_ne (by omega), su_same, upd_ne (by omega)]; exact q1
            · rw [su_ne (by omega), su_ne (by omega), su_same, upd_ne (by omega)]; exact q2
            · rw [su_ne (by omega), su_ne (by omega), su_same, upd_same]
            · rw [su_ne (by omega), su_ne (by omega), su_same, upd_ne (by omega)]; exact q4
            · show st2.1 - 1 ≤ 50000
              omega
            · intro s hs
              rw [su_ne (by omega), su_same]
              by_cases z : s = i
              · subst z; rw [upd_same, upd0_same]; rfl
              · rw [upd_ne z, upd0_ne z]; exact q6 s hs
            · intro p' hp'
              rw [su_same]
              by_cases z : p' = 11 - n
              · subst z; rw [upd_same, upd0_same]; rfl
              · rw [upd_ne z, upd0_ne z]; exact q7 p' hp'
            · intro q eq p' hp'
              rw [su_ne (by omega), su_ne (by omega), su_ne (by omega)]
              exact q8 q eq p' hp'
            · rw [← fe] at t3 n3
              have f4 : FX υ (su (su υ3 179 (upd (υ3 179) (11 - n) (-1))) 175 (upd (υ3 175) i (-1))) := by
                refine ⟨fun k a1 a2 a3 a4 => ?_, fun j hj => ?_⟩
                · rw [su_ne a2, su_ne a3, f3.1 k a1 a2 a3 a4, su_ne a3, su_ne a2, su_ne a1]; exact f2.1 k a1 a2 a3 a4
                · rw [su_ne (by omega), su_ne (by omega), f3.2 j hj, su_ne (by omega), su_ne (by omega), su_same, upd_ne (by omega)]; exact f2.2 j hj
              have a4 : ∀ s, s < 12 → su (su υ3 179 (upd (υ3 179) (11 - n) (-1))) 175 (upd (υ3 175) i (-1)) 175 s = opM (A s) := by
                intro s hs
                rw [su_same]
                by_cases z : s = i
                · subst z; rw [upd_same, my.2.1]; rfl
                · rw [upd_ne z, a3 s hs, upd0_ne z]
              cases e3 : (f i (st2.1 - 1, st2.2)).1 with
              | false =>
                rw [if_neg (by rw [e3]; decide)] at e
                refine spent _ (i + 1) (by omega) f4 a4 ?_ (by rw [← e])
                rw [su_ne (by omega), su_ne (by omega)]; exact n3 e3
              | true =>
                rw [if_pos e3] at e
                obtain ⟨⟨r1, r2, r3, r4⟩, r5, r6, r7, r8⟩ := t3 e3
                refine ih (i + 1) _ _ (by omega) f4 ⟨⟨?_, ?_, ?_, ?_⟩, r5, a4, fun p' hp' => ?_, fun q eq p' hp' => ?_⟩ e
                · rw [su_ne (by omega), su_ne (by omega)]; exact r1
                · rw [su_ne (by omega), su_ne (by omega)]; exact r2
                · rw [su_ne (by omega), su_ne (by omega)]; exact r3
                · rw [su_ne (by omega), su_ne (by omega)]; exact r4
                · rw [su_ne (by omega), su_same]
                  by_cases z : p' = 11 - n
                  · subst z; rw [upd_same, hQ _ (by omega)]; rfl
                  · rw [upd_ne z, r7 p' hp', upd0_ne z]
                · rw [su_ne (by omega), su_ne (by omega)]; exact r8 q eq p' hp'
      exact key 12 0 st1 υ1 rfl f1 X1 hres
end MIXM
