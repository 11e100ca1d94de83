/-! MIXES: the component's search -/
section MIXX
variable {g : vt_GT} {σ τ : vt_Sg} {so ne : Nat → Int32} {A Q : Nat → Option Nat} {ns n m p s mo : Nat} {w : Int32}
/-- the component's world while it seeks -/
def EX (τ : vt_Sg) (mo : Nat) (st : StM) (Q : Nat → Option Nat) : Prop := (τ 123 1 = st.2.1 ∧ τ 123 2 = st.2.2.1 ∧ τ 123 8 = nI mo ∧ τ 123 7 = nI (mo - st.1)) ∧ (st.1 ≤ mo ∧ mo ≤ 50000) ∧ (∀ p, p < 12 → τ 125 p = opN (Q p)) ∧ ∀ q, st.2.2.2 = some q → ∀ p, p < 12 → τ 124 p = opN (q p)
/-- what it leaves as it was, from m on -/
def FE (m : Nat) (τ τ' : vt_Sg) : Prop := ∀ k, k ≠ 123 → k ≠ 124 → k ≠ 125 → ¬ (153 + m < k ∧ k ≤ 165) → τ' k = τ k
theorem FE.tr {a b c : vt_Sg} (h : FE m a b) (k : FE m b c) : FE m a c := fun i a1 a2 a3 a4 => (k i a1 a2 a3 a4).trans (h i a1 a2 a3 a4)
theorem FE.rf (a : vt_Sg) : FE m a a := fun _ _ _ _ _ => rfl
/-- the rows that are made ahead: what each shop is worth, and its rivals -/
def RW (τ : vt_Sg) (so ne : Nat → Int32) (ns : Nat) (wt : Nat → Nat → Int32) : Prop := ∀ s, s < ns → (∀ p, p < 12 → τ (127 + s) p = wt s p) ∧ ∀ d, d < 12 → BS (τ (140 + s) d) (fun o => o < ns ∧ rvl so ne s o d = true)
theorem c_X6_compare {st : StM} (hX : EX τ mo st Q) (Φ : vt_Sg → Prop) (h : ∀ τ', (∀ k, k ≠ 123 → k ≠ 124 → τ' k = τ k) → EX τ' mo (cmpS Q w (nI m) st) Q → Φ τ') : vt_Mv g 1 D_X6_compare [.ref (g.2.1 123), .int (nI m), .int w] τ Φ := by
  obtain ⟨⟨q1, q2, q3, q4⟩, q5, q6, q7⟩ := id hX
  refine mV ok_X6_compare.1 rfl rfl rfl (s_X6_compare_0 g τ _ (nI m) w ?_)
  have W : (st.2.1 < w ∨ (w = st.2.1 ∧ ¬ st.2.2.1 ≤ nI m)) → Φ (su (su (su τ 123 (upd (τ 123) 1 w)) 123 (upd (upd (τ 123) 1 w) 2 (nI m))) 124 (va_cpy (τ 125) (τ 124) 0 0 12)) := by
    intro c
    rw [cmpS_t c] at h
    rw [su_su]
    refine h _ (fun k a1 a2 => by rw [su_ne a2, su_ne a1]) ⟨⟨?_, ?_, ?_, ?_⟩, q5, fun p hp => ?_, fun q e p hp => ?_⟩
    · rw [su_ne (by omega), su_same, upd_ne (by omega), upd_same]
    · rw [su_ne (by omega), su_same, upd_same]
    · rw [su_ne (by omega), su_same, upd_ne (by omega), upd_ne (by omega)]; exact q3
    · rw [su_ne (by omega), su_same, upd_ne (by omega), upd_ne (by omega)]; exact q4
    · rw [su_ne (by omega), su_ne (by omega)]; exact q6 p hp
    · cases e
      rw [su_same, pk_cpy_in (by omega) (by omega), show 0 + (p - 0) = p by omega]; exact q6 p hp
  have N : ¬ (st.2.1 < w ∨ (w = st.2.1 ∧ ¬ st.2.2.1 ≤ nI m)) → Φ τ := by
    intro c
    rw [cmpS_n c] at h
    exact h τ (fun _ _ _ => rfl) hX
  rw [q1, q2]
  exact ⟨fun c => ⟨rfl, W (Or.inl c)⟩, fun c => ⟨fun c2 => ⟨rfl, N (fun z => z.elim c (fun y => c2 y.1))⟩, fun c2 => ⟨fun c3 => ⟨rfl, N (fun z => z.elim c (fun y => y.2 c3))⟩, fun c3 => ⟨rfl, W (Or.inr ⟨c2, c3⟩)⟩⟩⟩⟩
theorem c_X6_narrow {wt : Nat → Nat → Int32} (hR : RW τ so ne ns wt) (hs : s < ns) (hns : ns ≤ 12) (hp : p < 12) (hm : m < 12) {F : Nat → Nat → Prop} (hF : ∀ l, p < l → l < 12 → BS (τ (153 + m) l) (F l)) (Φ : vt_Sg → Prop) (h : ∀ f : Nat → Int32, (∀ l, p < l → l < 12 → BS (f l) (fun o => F l o ∧ ¬ ((o < ns ∧ rvl so ne s o (l - p) = true) ∨ o = s))) → Φ (su τ (153 + (m + 1)) f)) : vt_Mv g 0 D_X6_narrow [.ref (g.2.1 123), .int (nI m), .int (nI p), .int (nI s)] τ Φ := by
  refine mV ok_X6_narrow.1 rfl rfl rfl (s_X6_narrow_0 g τ _ (nI m) (nI p) (nI s) ?_)
  rw [nI_1]
  have l0 := lpS 12 (fun i (f : Nat → Int32) => TT g (vt_R 0) 0 0 D_X6_narrow none 5 [some (.ref (g.2.1 123)), some (.int (nI m)), some (.int (nI p)), some (.int (nI s)), some (.int (nI i)), none] [] (su τ (153 + (m + 1)) f) (fun v σ' => v = none ∧ Φ σ')) (fun i f => p < i ∧ ∀ l, p < l → l < i → BS (f l) (fun o => F l o ∧ ¬ ((o < ns ∧ rvl so ne s o (l - p) = true) ∨ o = s)))
    (fun f hf => s_X6_narrow_5 g _ _ _ _ _ _ ⟨fun _ => ⟨rfl, h f hf.2⟩, fun c => absurd (show (12 : Int32) ≤ 12 from by decide) c⟩) (fun i f hi ⟨h1, hf⟩ ih => ?_) (p + 1) (τ (153 + (m + 1))) (by omega) ⟨by omega, fun l a b => absurd b (by omega)⟩
  · rw [su_self] at l0; exact l0
  · refine s_X6_narrow_5 g _ _ _ _ _ _ ⟨fun c => absurd c (nI_ge (b := 12) hi (by omega)), fun _ => ?_⟩
    rw [pk_sub (by omega), nI_1, nI_1, nI_clamp (by omega), nI_clamp (by omega), nI_clamp (by omega), nI_clamp (by omega), nI_clamp (by omega), su_su, su_same, su_ne (show 153 + m ≠ 153 + (m + 1) by omega), su_ne (show 140 + s ≠ 153 + (m + 1) by omega)]
    refine ⟨inN (by omega) (by omega), inN (by omega) (by omega), inN (by omega) (by omega), inN (by omega) (by omega), inN hi (by omega), ih _ ⟨by omega, fun l a b => ?_⟩⟩
    by_cases z : l = i
    · subst z
      rw [upd_same]
      exact (hF l a hi).sub (((hR s hs).2 (l - p) (by omega)).add (by omega))
    · rw [upd_ne z]; exact hf l a (by omega)
/-- the place before i -/
def dwn (i : Nat) : Int32 := nI (12 - i) + (-1)
theorem dwn_lt : ∀ i, i ≤ 12 → dwn i < nI (12 - i) := by decide +kernel
theorem dwn_nI {i : Nat} (h : i < 12) : dwn i = nI (11 - i) := by
  unfold dwn
  rw [show 12 - i = (11 - i) + 1 by omega, pk_m1]
theorem dwn_s {i : Nat} (h : i < 12) : nI (11 - i) + (-1) = dwn (i + 1) := by
  unfold dwn
  rw [show 12 - (i + 1) = 11 - i by omega]
theorem c_X6_extend {wt : Nat → Nat → Int32} (hns : ns ≤ 12) :
    ∀ n, n ≤ 12 → ∀ d, 10 + n ≤ d → ∀ (A Q : Nat → Option Nat) (w : Int32) (m : Nat) (st : StM) (τ : vt_Sg), m + n ≤ 12 → (∀ p, 12 - n ≤ p → Q p = none) → RW τ so ne ns wt → (∀ p, 12 - n ≤ p → p < 12 → BS (τ (153 + m) p) (mayP so ne ns A p)) → EX τ mo st Q → ∀ Φ : Int32 → vt_Sg → Prop,
      (∀ τ', FE m τ τ' → ((pF (may so ne ns) wt n A Q w m st).1 = true → EX τ' mo (pF (may so ne ns) wt n A Q w m st).2 Q) → Φ (ind (pF (may so ne ns) wt n A Q w m st).1) τ') →
      vt_Mi g d D_X6_extend [.ref (g.2.1 123), .int (nI m), .int (nI (12 - n)), .int w] τ Φ := by
  intro n
  induction n using Nat.strongRecOn with
  | _ n IH =>
    intro hn d hd A Q w m st τ hmn hQ hR hB hX Φ h
    obtain ⟨d, rfl⟩ : ∃ d', d = d' + 1 := ⟨d - 1, by omega⟩
    refine mI ok_X6_extend.1 rfl rfl rfl (s_X6_extend_0 g τ _ d (by omega) (nI m) (nI (12 - n)) w (c_X6_compare hX _ (fun τ0 f0 X0 => ⟨fun _ => ?_, fun c => ?_⟩)))
    rotate_left
    · -- many is 12: nothing is left
      have : n = 0 := by
        rcases Nat.lt_or_ge m 12 with q | q
        · exact absurd (nI_lt (b := 12) q (by omega)) c
        · omega
      subst this
      exact ⟨_, rfl, h τ0 (fun k a1 a2 _ _ => f0 k a1 a2) (fun _ => X0)⟩
    have fe0 : FE m τ τ0 := fun k a1 a2 _ _ => f0 k a1 a2
    -- the places, from the last on
    have outer : ∀ j i (τ1 : vt_Sg), i + j = n → FE m τ τ1 → (pF (may so ne ns) wt i A Q w m st).1 = true → EX τ1 mo (pF (may so ne ns) wt i A Q w m st).2 Q → TT g (vt_R (d + 1)) 0 0 D_X6_extend none 18 [some (.ref (g.2.1 123)), some (.int (nI m)), some (.int (nI (12 - n))), some (.int w), some (.int (dwn i)), none, none, none] [] τ1 (fun v σ' => ∃ r, v = some (Value.int r) ∧ Φ r σ') := by
      intro j
      induction j with
      | zero =>
        intro i τ1 hi f1 e1 X1
        have : i = n := hi
        subst this
        have fin := h τ1 f1 (fun _ => X1)
        rw [e1] at fin
        exact s_X6_extend_18 g τ1 _ d (by omega) _ _ _ _ ⟨fun _ => ⟨_, rfl, fin⟩, fun c => absurd (dwn_lt i hn) c⟩
      | succ j jh =>
        intro i τ1 hi f1 e1 X1
        have hi12 : i < 12 := by omega
        rw [dwn_nI hi12]
        refine s_X6_extend_18 g τ1 _ d (by omega) _ _ _ _ ⟨fun c => absurd c (nI_nlt (by omega) (by omega)), fun _ => ⟨inN (by omega) (by omega), inN (by omega) (by omega), ?_⟩⟩
        rw [nI_clamp (by omega), nI_clamp (by omega), f1 (153 + m) (by omega) (by omega) (by omega) (by omega)]
        have hb := hB (11 - i) (by omega) (by omega)
        generalize τ (153 + m) (11 - i) = x5 at hb
        have es := pF_s (my := may so ne ns) (wt := wt) e1
        generalize hf : (fun s => pF (may so ne ns) wt i (upd0 A s (some (11 - i))) (upd0 Q (11 - i) (some s)) (w + wt s (11 - i)) (m + 1)) = f at es
        have ff : ∀ s st, f s st = pF (may so ne ns) wt i (upd0 A s (some (11 - i))) (upd0 Q (11 - i) (some s)) (w + wt s (11 - i)) (m + 1) st := fun s st => by rw [← hf]
        generalize (pF (may so ne ns) wt i A Q w m st).2 = st1 at es X1
        -- on to the next place
        have next : ∀ (τ2 : vt_Sg) (st2 : StM), FE m τ τ2 → EX τ2 mo st2 Q → (true, st2) = pF (may so ne ns) wt (i + 1) A Q w m st → TT g (vt_R (d + 1)) 0 0 D_X6_extend none 18 [some (.ref (g.2.1 123)), some (.int (nI m)), some (.int (nI (12 - n))), some (.int w), some (.int (nI (11 - i) + (-1))), none, none, none] [] τ2 (fun v σ' => ∃ r, v = some (Value.int r) ∧ Φ r σ') := by
          intro τ2 st2 f2 X2 e
          rw [dwn_s hi12]
          exact jh (i + 1) τ2 (by omega) f2 (by rw [← e]) (by rw [← e]; exact X2)
        -- no more tries
        have stop : ∀ (τ2 : vt_Sg), FE m τ τ2 → (pF (may so ne ns) wt (i + 1) A Q w m st).1 = false → Φ 0 τ2 := by
          intro τ2 f2 e
          have := pF_stop e j
          rw [show i + 1 + j = n by omega] at this
          have fin := h τ2 f2 (fun z => by rw [this] at z; cases z)
          rw [this] at fin
          exact fin
        rw [es] at next stop
        generalize hres : lpF f (may so ne ns A (11 - i)) 0 12 st1 = X at next stop
        have inner : ∀ k s (st2 : StM) (τ2 : vt_Sg), s + k = 12 → FE m τ τ2 → EX τ2 mo st2 Q → lpF f (may so ne ns A (11 - i)) s k st2 = X → TT g (vt_R (d + 1)) 0 0 D_X6_extend none 38 [some (.ref (g.2.1 123)), some (.int (nI m)), some (.int (nI (12 - n))), some (.int w), some (.int (nI (11 - i))), some (.int x5), some (.int (nI s)), none] [] τ2 (fun v σ' => ∃ r, v = some (Value.int r) ∧ Φ r σ') := by
          intro k
          induction k with
          | zero =>
            intro s st2 τ2 hs f2 X2 e
            have : s = 12 := hs
            subst this
            exact s_X6_extend_38 g τ2 _ d (by omega) _ _ _ _ _ _ ⟨fun _ => next τ2 st2 f2 X2 e, fun c => absurd (show (12 : Int32) ≤ 12 from by decide) c⟩
          | succ k kh =>
            intro s st2 τ2 hs f2 X2 e
            have hs12 : s < 12 := by omega
            refine s_X6_extend_38 g τ2 _ d (by omega) _ _ _ _ _ _ ⟨fun c => absurd c (nI_ge (b := 12) hs12 (by omega)), fun _ => ⟨fun c => ?_, fun _ => ⟨fun c => ?_, fun c => ?_⟩⟩⟩
            · refine next τ2 st2 f2 X2 ?_
              rw [← e, lpF_none (k + 1) s st2 (fun j h1 h2 => may_f (hb.shr0 hs12 c j h1 (by omega)))]
            · have my : mayP so ne ns A (11 - i) s := Classical.byContradiction (fun z => c (hb.bit hs12 |>.mpr z))
              rw [lpF, if_pos (may_t.mpr my)] at e
              obtain ⟨⟨q1, q2, q3, q4⟩, ⟨q5, q5'⟩, q6, q7⟩ := id X2
              have hsn : s < ns := my.1
              rw [q3, q4]
              by_cases z0 : st2.1 = 0
              · rw [if_pos z0] at e
                exact ⟨fun c => absurd c (by rw [z0]; exact nI_nlt (by omega) (by omega)), fun _ => ⟨_, rfl, stop τ2 f2 (by rw [← e])⟩⟩
              · rw [if_neg z0] at e
                refine ⟨fun _ => ⟨inN (by omega) (by omega), ?_⟩, fun c => absurd (nI_lt (by omega) (by omega)) c⟩
                rw [nI_clamp (by omega), nI_clamp (by omega), nI_1, show mo - st2.1 + 1 = mo - (st2.1 - 1) by omega]
                have hR2 : RW (su (su τ2 123 (upd (τ2 123) 7 (nI (mo - (st2.1 - 1))))) 125 (upd (τ2 125) (11 - i) (nI s))) so ne ns wt := fun o ho => by
                  rw [su_ne (by omega), su_ne (by omega), su_ne (by omega), su_ne (by omega), f2 (127 + o) (by omega) (by omega) (by omega) (by omega), f2 (140 + o) (by omega) (by omega) (by omega) (by omega)]
                  exact hR o ho
                refine c_X6_narrow (p := 11 - i) (F := mayP so ne ns A) hR2 hsn hns (by omega) (by omega) (fun l h1 h2 => ?_) _ (fun fr hfr => ⟨inN hs12 (by omega), ?_⟩)
                · rw [su_ne (by omega), su_ne (by omega), f2 (153 + m) (by omega) (by omega) (by omega) (by omega)]
                  exact hB l (by omega) h2
                · have ew : su (su (su τ2 123 (upd (τ2 123) 7 (nI (mo - (st2.1 - 1))))) 125 (upd (τ2 125) (11 - i) (nI s))) (153 + (m + 1)) fr (127 + s) (11 - i) = wt s (11 - i) := by
                    rw [su_ne (by omega)]; exact (hR2 s hsn).1 (11 - i) (by omega)
                  rw [ew, nI_1, nI_1, nI_1, show 11 - i + 1 = 12 - i by omega]
                  have fe : f s (st2.1 - 1, st2.2) = pF (may so ne ns) wt i (upd0 A s (some (11 - i))) (upd0 Q (11 - i) (some s)) (w + wt s (11 - i)) (m + 1) (st2.1 - 1, st2.2) := ff _ _
                  refine IH i (by omega) (by omega) d (by omega) (upd0 A s (some (11 - i))) (upd0 Q (11 - i) (some s)) (w + wt s (11 - i)) (m + 1) (st2.1 - 1, st2.2) _ (by omega) (fun p hp => by rw [upd0_ne (by omega)]; exact hQ p (by omega)) (fun o ho => ?_) (fun l h1 h2 => ?_) ⟨⟨?_, ?_, ?_, ?_⟩, ⟨?_, q5'⟩, fun p hp => ?_, fun q eq p hp => ?_⟩ _ (fun τ4 f4 t4 => ?_)
                  · rw [su_ne (show 127 + o ≠ 153 + (m + 1) by omega), su_ne (show 140 + o ≠ 153 + (m + 1) by omega)]; exact hR2 o ho
                  · rw [su_same]
                    exact (hfr l (by omega) h2).cg (fun o _ => (put_may my (by omega)).symm)
                  · rw [su_ne (by omega), su_ne (by omega), su_same, upd_ne (by omega)]; exact q1
                  · rw [su_ne (by omega), su_ne (by omega), su_same, upd_ne (by omega)]; exact q2
                  · rw [su_ne (by omega), su_ne (by omega), su_same, upd_ne (by omega)]; exact q3
                  · rw [su_ne (by omega), su_ne (by omega), su_same, upd_same]
                  · show st2.1 - 1 ≤ mo
                    omega
                  · rw [su_ne (by omega), su_same]
                    by_cases z : p = 11 - i
                    · subst z; rw [upd_same, upd0_same]; rfl
                    · rw [upd_ne z, upd0_ne z]; exact q6 p hp
                  · rw [su_ne (by omega), su_ne (by omega), su_ne (by omega)]; exact q7 q eq p hp
                  · rw [← fe] at t4 ⊢
                    have f5 : FE m τ (su τ4 125 (upd (τ4 125) (11 - i) (-1000000005))) := fun k a1 a2 a3 a4 => by
                      rw [su_ne a3, f4 k a1 a2 a3 (by omega), su_ne (by omega), su_ne a3, su_ne a1]; exact f2 k a1 a2 a3 a4
                    cases e3 : (f s (st2.1 - 1, st2.2)).1 with
                    | false =>
                      rw [if_neg (by rw [e3]; decide)] at e
                      exact ⟨fun c => absurd rfl c, fun _ => ⟨_, rfl, stop _ f5 (by rw [← e])⟩⟩
                    | true =>
                      rw [if_pos e3] at e
                      obtain ⟨⟨r1, r2, r3, r4⟩, r5, r6, r7⟩ := t4 e3
                      refine ⟨fun _ => kh (s + 1) _ _ (by omega) f5 ⟨⟨?_, ?_, ?_, ?_⟩, r5, fun p hp => ?_, fun q eq p hp => ?_⟩ e, fun c => absurd c (by decide)⟩
                      · rw [su_ne (by omega)]; exact r1
                      · rw [su_ne (by omega)]; exact r2
                      · rw [su_ne (by omega)]; exact r3
                      · rw [su_ne (by omega)]; exact r4
                      · rw [su_same]
                        by_cases z : p = 11 - i
                        · subst z; rw [upd_same, hQ _ (by omega)]; rfl
                        · rw [upd_ne z, r6 p hp, upd0_ne z]
                      · rw [su_ne (by omega)]; exact r7 q eq p hp
            · rw [nI_1]
              refine kh (s + 1) st2 τ2 (by omega) f2 X2 ?_
              rw [lpF, if_neg (by rw [may_f ((hb.bit hs12).mp c)]; decide)] at e
              exact e
        exact inner 12 0 st1 τ1 rfl f1 X1 hres
    exact outer n 0 τ0 (by omega) fe0 rfl X0
theorem c_X6_prepare (hns : ns ≤ 12) (hs : s < ns) (h7 : τ 7 7 = nI ns) (Φ : vt_Sg → Prop) (h : ∀ fa fb : Nat → Int32, (∀ p, p < 12 → fa p = τ 14 s * τ 2 p / 100) → (∀ d, d < 12 → BS (fb d) (fun o => o < ns ∧ rvl (τ 9) (τ 12) s o d = true)) → Φ (su (su τ (127 + s) fa) (140 + s) fb)) : vt_Mv g 2 D_X6_prepare [.ref (g.2.1 123), .ref (g.2.1 1), .int (nI s)] τ Φ := by
  refine mV ok_X6_prepare.1 rfl rfl rfl (s_X6_prepare_0 g τ _ (nI s) ?_)
  have l0 := lpS 12 (fun i (f : Nat → Int32) => TT g (vt_R 2) 0 0 D_X6_prepare none 2 [some (.ref (g.2.1 123)), some (.ref (g.2.1 1)), some (.int (nI s)), some (.int (nI i)), none, none] [] (su τ (127 + s) f) (fun v σ' => v = none ∧ Φ σ')) (fun i f => ∀ p, p < i → f p = τ 14 s * τ 2 p / 100) (fun fa hfa => ?_) (fun i f hi hf ih => ?_) 0 (τ (127 + s)) (by omega) (fun p hp => absurd hp (by omega))
  · rw [su_self] at l0; exact l0
  · refine s_X6_prepare_2 g _ _ _ _ ⟨fun _ => ?_, fun c => absurd (show (12 : Int32) ≤ 12 from by decide) c⟩
    have l1 := lpS 12 (fun i (f : Nat → Int32) => TT g (vt_R 2) 0 0 D_X6_prepare none 43 [some (.ref (g.2.1 123)), some (.ref (g.2.1 1)), some (.int (nI s)), some (.int (nI i)), none, none] [] (su (su τ (127 + s) fa) (140 + s) f) (fun v σ' => v = none ∧ Φ σ')) (fun i f => ∀ d, d < i → BS (f d) (fun o => o < ns ∧ rvl (τ 9) (τ 12) s o d = true)) (fun fb hfb => s_X6_prepare_43 g _ _ _ _ ⟨fun _ => ⟨rfl, h fa fb hfa hfb⟩, fun c => absurd (show (12 : Int32) ≤ 12 from by decide) c⟩) (fun i f hi hf ih => ?_) 0 (su τ (127 + s) fa (140 + s)) (by omega) (fun p hp => absurd hp (by omega))
    · rw [su_self] at l1; exact l1
    · refine s_X6_prepare_43 g _ _ _ _ ⟨fun c => absurd c (nI_ge (b := 12) hi (by omega)), fun _ => ?_⟩
      have e7 : su (su τ (127 + s) fa) (140 + s) f 7 7 = nI ns := by rw [su_ne (by omega), su_ne (by omega)]; exact h7
      refine lpS ns (fun j (x : Int32) => TT g (vt_R 2) 0 0 D_X6_prepare none 55 [some (.ref (g.2.1 123)), some (.ref (g.2.1 1)), some (.int (nI s)), some (.int (nI i)), some (.int x), some (.int (nI j))] [] (su (su τ (127 + s) fa) (140 + s) f) (fun v σ' => v = none ∧ Φ σ')) (fun j x => BS x (fun o => o < j ∧ rvl (τ 9) (τ 12) s o i = true)) (fun x hx => ?_) (fun j x hj hx jh => ?_) 0 0 (by omega) (BS_0.cg (fun o _ => ⟨fun z => z.elim, fun z => absurd z.1 (by omega)⟩))
      · refine s_X6_prepare_55 g _ _ _ _ _ _ ⟨fun _ => ⟨inN (by omega) (by omega), inN hi (by omega), ?_⟩, fun c => absurd (by rw [e7]; exact nI_le (Nat.le_refl _) (by omega)) c⟩
        rw [nI_clamp (by omega), nI_clamp (by omega), su_su, su_same, nI_1]
        refine ih _ (fun d hd => ?_)
        by_cases z : d = i
        · subst z; rw [upd_same]; exact hx
        · rw [upd_ne z]; exact hf d (by omega)
      · refine s_X6_prepare_55 g _ _ _ _ _ _ ⟨fun c => absurd (by rw [e7] at c; exact c) (nI_ge hj (by omega)), fun _ => ⟨inN (by omega) (by omega), inN (by omega) (by omega), ?_⟩⟩
        rw [nI_clamp (by omega), nI_clamp (by omega), su_ne (show 9 ≠ 140 + s by omega), su_ne (show 9 ≠ 127 + s by omega), su_ne (show 12 ≠ 140 + s by omega), su_ne (show 12 ≠ 127 + s by omega), nI_1]
        have ev : rvl (τ 9) (τ 12) s j i = true ↔ (τ 9 s = τ 9 j ∧ ¬ (if τ 12 s < τ 12 j then τ 12 j else τ 12 s) < nI i) := by
          unfold rvl
          rw [Bool.and_eq_true, decide_eq_true_iff, decide_eq_true_iff]
        refine ⟨fun c => jh _ ((hx.add (by omega)).cg (fun o _ => ?_)), fun c => jh x (hx.cg (fun o _ => ?_))⟩
        · constructor
          · rintro (⟨a, b⟩ | a)
            · exact ⟨by omega, b⟩
            · subst a; exact ⟨by omega, ev.mpr c⟩
          · rintro ⟨a, b⟩
            by_cases z : o = j
            · exact Or.inr z
            · exact Or.inl ⟨by omega, b⟩
        · constructor
          · rintro ⟨a, b⟩; exact ⟨by omega, b⟩
          · rintro ⟨a, b⟩
            refine ⟨?_, b⟩
            by_cases z : o = j
            · subst z; exact absurd (ev.mp b) c
            · omega
  · refine s_X6_prepare_2 g _ _ _ _ ⟨fun c => absurd c (nI_ge (b := 12) hi (by omega)), fun _ => ⟨inN (by omega) (by omega), inN hi (by omega), ?_⟩⟩
    rw [nI_clamp (by omega), nI_clamp (by omega), su_su, su_same, su_ne (show 14 ≠ 127 + s by omega), su_ne (show 2 ≠ 127 + s by omega), nI_1]
    refine ih _ (fun p hp => ?_)
    by_cases z : p = i
    · subst z; rw [upd_same]
    · rw [upd_ne z]; exact hf p (by omega)
theorem c_X6_fitAtFirst {wt : Nat → Nat → Int32} (hns : ns ≤ 12) (h7 : τ 7 7 = nI ns) (hC1 : ∀ s, s < 12 → τ 117 s = opN (A s)) (hC2 : ∀ p, p < 12 → τ 118 p = opN (Bf A 12 p)) (hA : inj12 A) (hlt : ∀ s, ns ≤ s → A s = none) (hR : RW τ so ne ns wt) (hp : p < 12) (Φ : Int32 → vt_Sg → Prop) (h : ∀ x, BS x (mayP so ne ns A p) → Φ x τ) : vt_Mi g 1 D_X6_fitAtFirst [.ref (g.2.1 123), .ref (g.2.1 116), .int (nI p)] τ Φ := by
  refine mI ok_X6_fitAtFirst.1 rfl rfl rfl (s_X6_fitAtFirst_0 g τ _ (nI p) ⟨inN hp (by omega), ?_⟩)
  rw [nI_clamp (by omega), hC2 p hp]
  cases hb : Bf A 12 p with
  | some o =>
    refine ⟨fun c => absurd c (nI_neNONE (by have := (Bf_some hb).1; omega)), fun _ => ⟨_, rfl, h 0 (BS_0.cg (fun s _ => ⟨fun z => z.elim, fun z => z.2.2.1 o (Bf_some hb).2⟩))⟩⟩
  | none =>
    have free : ∀ o, A o ≠ some p := fun o => by
      rcases Nat.lt_or_ge o 12 with q | q
      · exact Bf_none hb o q
      · rw [hA.2.2 o q]; exact fun z => by cases z
    refine ⟨fun _ => ?_, fun c => absurd rfl c⟩
    refine lpS ns (fun i (x : Int32) => TT g (vt_R 1) 0 0 D_X6_fitAtFirst none 18 [some (.ref (g.2.1 123)), some (.ref (g.2.1 116)), some (.int (nI p)), some (.int x), some (.int (nI i)), none] [] τ (fun v σ' => ∃ r, v = some (Value.int r) ∧ Φ r σ')) (fun i x => BS x (fun o => o < i ∧ A o = none)) (fun x hx => ?_) (fun i x hi hx ih => ?_) 0 0 (by omega) (BS_0.cg (fun o _ => ⟨fun z => z.elim, fun z => absurd z.1 (by omega)⟩))
    · refine s_X6_fitAtFirst_18 g τ _ _ _ _ ⟨fun _ => ?_, fun c => absurd (by rw [h7]; exact nI_le (Nat.le_refl _) (by omega)) c⟩
      refine lpS ns (fun i (x : Int32) => TT g (vt_R 1) 0 0 D_X6_fitAtFirst none 61 [some (.ref (g.2.1 123)), some (.ref (g.2.1 116)), some (.int (nI p)), some (.int x), some (.int (nI i)), none] [] τ (fun v σ' => ∃ r, v = some (Value.int r) ∧ Φ r σ')) (fun i x => BS x (fun s => s < ns ∧ A s = none ∧ ∀ o q, o < i → A o = some q → rvl so ne s o (dst p q) = false)) (fun x hx => ?_) (fun i x hi hx ih => ?_) 0 x (by omega) (hx.cg (fun s _ => ⟨fun z => ⟨z.1, z.2, fun o q ho => absurd ho (by omega)⟩, fun z => ⟨z.1, z.2.1⟩⟩))
      · refine s_X6_fitAtFirst_61 g τ _ _ _ _ ⟨fun _ => ⟨_, rfl, h x (hx.cg (fun s _ => ⟨fun z => ⟨z.1, z.2.1, free, fun o q e => ?_⟩, fun z => ⟨z.1, z.2.1, fun o q _ e => z.2.2.2 o q e⟩⟩))⟩, fun c => absurd (by rw [h7]; exact nI_le (Nat.le_refl _) (by omega)) c⟩
        rcases Nat.lt_or_ge o ns with y | y
        · exact z.2.2 o q y e
        · rw [hlt o y] at e; cases e
      · refine s_X6_fitAtFirst_61 g τ _ _ _ _ ⟨fun c => absurd (by rw [h7] at c; exact c) (nI_ge hi (by omega)), fun _ => ⟨inN (by omega) (by omega), ?_⟩⟩
        rw [nI_clamp (by omega), hC1 i (by omega), nI_1]
        cases ha : A i with
        | none =>
          refine ⟨fun _ => ih x (hx.cg (fun s _ => ⟨fun z => ⟨z.1, z.2.1, fun o q ho e => ?_⟩, fun z => ⟨z.1, z.2.1, fun o q ho e => z.2.2 o q (by omega) e⟩⟩)), fun c => absurd rfl c⟩
          by_cases y : o = i
          · subst y; rw [ha] at e; cases e
          · exact z.2.2 o q (by omega) e
        | some q =>
          have hq := hA.2.1 i q ha
          have ed : (if 0 ≤ opN (some q) - nI p then opN (some q) - nI p else 0 - (opN (some q) - nI p)) = nI (dst q p) := apt_d q hq p hp
          rw [ed]
          have hd := dst_lt hq hp
          refine ⟨fun c => absurd c (nI_neNONE (by omega)), fun _ => ⟨inN hd (by omega), ?_⟩⟩
          rw [nI_clamp (by omega)]
          refine ih _ ((hx.sub ((hR i hi).2 (dst q p) hd)).cg (fun s _ => ?_))
          have sy : dst q p = dst p q := by unfold dst; omega
          rw [sy, rvl_sym i s]
          constructor
          · rintro ⟨⟨a, b, c⟩, d⟩
            refine ⟨a, b, fun o q' ho e => ?_⟩
            by_cases y : o = i
            · subst y; rw [ha] at e; cases e
              cases z : rvl so ne s o (dst p q) with
              | false => rfl
              | true => exact absurd ⟨a, z⟩ d
            · exact c o q' (by omega) e
          · rintro ⟨a, b, c⟩
            refine ⟨⟨a, b, fun o q' ho e => c o q' (by omega) e⟩, fun z => ?_⟩
            have := c i q (by omega) ha
            rw [this] at z; cases z.2
    · refine s_X6_fitAtFirst_18 g τ _ _ _ _ ⟨fun c => absurd (by rw [h7] at c; exact c) (nI_ge hi (by omega)), fun _ => ⟨inN (by omega) (by omega), ?_⟩⟩
      rw [nI_clamp (by omega), hC1 i (by omega), nI_1]
      cases ha : A i with
      | none =>
        refine ⟨fun c => absurd rfl c, fun _ => ih _ ((hx.add (by omega)).cg (fun o _ => ?_))⟩
        constructor
        · rintro (⟨a, b⟩ | a)
          · exact ⟨by omega, b⟩
          · subst a; exact ⟨by omega, ha⟩
        · rintro ⟨a, b⟩
          by_cases z : o = i
          · exact Or.inr z
          · exact Or.inl ⟨by omega, b⟩
      | some q =>
        refine ⟨fun _ => ih x (hx.cg (fun o _ => ⟨fun z => ⟨by omega, z.2⟩, fun z => ⟨?_, z.2⟩⟩)), fun c => absurd c (nI_neNONE (by have := hA.2.1 i q ha; omega))⟩
        by_cases y : o = i
        · subst y; rw [ha] at z; cases z.2
        · omega
end MIXX
