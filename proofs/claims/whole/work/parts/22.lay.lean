/-! OPERATIONS: lay -/
section OPS6
variable {g : vt_GT} {σ : vt_Sg} {p1 p2 p3 p4 p5 : Int32}
/-- feet, i places of a sheet laid -/
def lf (f r : Nat → Int32) (i : Nat) : Nat → Int32 := fun p => if p < i ∧ (¬ r p < 10 ∧ ¬ 999 < r p) then r p else f p
def cn (r : Nat → Int32) : Nat → Int32 := fun p => if ¬ r p < 10 ∧ ¬ 999 < r p then 1 else 0
/-- the reference's row, i places of a sheet laid -/
def lm (n r : Nat → Int32) (i : Nat) : Nat → Int32 := fun j => if (10 ≤ j ∧ j < 10 + i) ∧ (¬ r (j - 10) < 10 ∧ ¬ 999 < r (j - 10)) then r (j - 10) else n j
theorem lf_y {f r : Nat → Int32} {i : Nat} (h : ¬ r i < 10 ∧ ¬ 999 < r i) : upd (lf f r i) i (r i) = lf f r (i + 1) := by
  funext p
  unfold upd lf
  by_cases e : p = i
  · subst e; rw [if_pos rfl, if_pos ⟨by omega, h⟩]
  · rw [if_neg e]
    by_cases q : p < i ∧ (¬ r p < 10 ∧ ¬ 999 < r p)
    · rw [if_pos q, if_pos ⟨by omega, q.2⟩]
    · rw [if_neg q, if_neg (fun z => q ⟨by omega, z.2⟩)]
theorem lf_n {f r : Nat → Int32} {i : Nat} (h : ¬ (¬ r i < 10 ∧ ¬ 999 < r i)) : lf f r i = lf f r (i + 1) := by
  funext p
  unfold lf
  by_cases q : p < i ∧ (¬ r p < 10 ∧ ¬ 999 < r p)
  · rw [if_pos q, if_pos ⟨by omega, q.2⟩]
  · rw [if_neg q, if_neg (fun z => by
      by_cases e : p = i
      · subst e; exact h z.2
      · exact q ⟨by omega, z.2⟩)]
theorem lm_y {f r : Nat → Int32} {i : Nat} (h : ¬ r i < 10 ∧ ¬ 999 < r i) : upd (lm f r i) (10 + i) (r i) = lm f r (i + 1) := by
  funext p
  unfold upd lm
  by_cases e : p = 10 + i
  · subst e
    have z : 10 + i - 10 = i := by omega
    rw [if_pos rfl, z, if_pos ⟨by omega, h⟩]
  · rw [if_neg e]
    by_cases q : (10 ≤ p ∧ p < 10 + i) ∧ (¬ r (p - 10) < 10 ∧ ¬ 999 < r (p - 10))
    · rw [if_pos q, if_pos ⟨by omega, q.2⟩]
    · rw [if_neg q, if_neg (fun z => q ⟨by omega, z.2⟩)]
theorem lm_n {f r : Nat → Int32} {i : Nat} (h : ¬ (¬ r i < 10 ∧ ¬ 999 < r i)) : lm f r i = lm f r (i + 1) := by
  funext p
  unfold lm
  by_cases q : (10 ≤ p ∧ p < 10 + i) ∧ (¬ r (p - 10) < 10 ∧ ¬ 999 < r (p - 10))
  · rw [if_pos q, if_pos ⟨by omega, q.2⟩]
  · rw [if_neg q, if_neg (fun z => by
      by_cases e : p = 10 + i
      · subst e
        have y : 10 + i - 10 = i := by omega
        rw [y] at z
        exact h z.2
      · exact q ⟨by omega, z.2⟩)]
theorem lf_0 {f r : Nat → Int32} : lf f r 0 = f := funext fun p => if_neg (fun z => by omega)
theorem lm_0 {f r : Nat → Int32} : lm f r 0 = f := funext fun p => if_neg (fun z => by omega)
theorem l_xlay {s B : Nat} (hs : s < 2) (hB : B ≤ 12) (P : Option Value → vt_Sg → Prop) (h : P (some (.int (sm B (cn (σ (113 + s)))))) (su σ 2 (lf (σ 2) (σ (113 + s)) B))) :
    TT g (vt_R 2) 0 0 D_X11_lay none 44 [some (.ref (g.2.1 0)), some (.int (nI s)), some (.int 0), some (.int (nI B)), some (.int 0), none] [] σ P := by
  have key := lpD B (fun i => TT g (vt_R 2) 0 0 D_X11_lay none 44 [some (.ref (g.2.1 0)), some (.int (nI s)), some (.int (sm i (cn (σ (113 + s))))), some (.int (nI B)), some (.int (nI i)), none] [] (su σ 2 (lf (σ 2) (σ (113 + s)) i)) P) ?_ ?_
  · rw [lf_0, su_self] at key
    exact key
  · exact s_X11_lay_44 g _ P _ _ _ _ ⟨fun _ => h, fun c => absurd (nI_le (Nat.le_refl _) (by omega)) c⟩
  · intro i hi ih
    refine s_X11_lay_44 g _ P _ _ _ _ ⟨fun c => absurd c (nI_ge hi (by omega)), fun _ => ⟨inN hs (by omega), inN (by omega) (by omega), ?_⟩⟩
    rw [nI_clamp (n := s) (by omega), nI_clamp (n := i) (by omega), su_ne (by omega : 113 + s ≠ 2), su_same, su_su, nI_1]
    refine ⟨fun c => ⟨inN (by omega) (by omega), ?_⟩, fun c => ?_⟩
    · rw [lf_y c]
      have e : sm (i + 1) (cn (σ (113 + s))) = sm i (cn (σ (113 + s))) + 1 := by
        show sm i (cn (σ (113 + s))) + cn (σ (113 + s)) i = _
        rw [cn, if_pos c]
      rw [e] at ih; exact ih
    · rw [lf_n c]
      rw [sm_0 (by rw [cn, if_neg c])] at ih; exact ih
theorem l_mlay {s n : Nat} (hs : s < 2) (hn : n ≤ 16) (hz : σ 173 s = nI n) (P : Option Value → vt_Sg → Prop) (h : P (some (.int (sm (min n 12) (cn (fun j => σ 174 (16 * s + j)))))) (su σ 169 (lm (σ 169) (fun j => σ 174 (16 * s + j)) (min n 12)))) :
    TT g (vt_R 1) 0 0 D_X12_lay none 28 [some (.ref (g.2.1 168)), some (.int (nI s)), some (.int 0), some (.int 0), none] [] σ P := by
  have hr : ∀ i, σ 174 (16 * s + i) = (fun j => σ 174 (16 * s + j)) i := fun _ => rfl
  generalize (fun j => σ 174 (16 * s + j)) = r at h hr
  have key := lpD (min n 12) (fun i => TT g (vt_R 1) 0 0 D_X12_lay none 28 [some (.ref (g.2.1 168)), some (.int (nI s)), some (.int (sm i (cn r))), some (.int (nI i)), none] [] (su σ 169 (lm (σ 169) r i)) P) ?_ ?_
  · rw [lm_0, su_self] at key
    exact key
  · refine s_X12_lay_28 g _ P _ _ _ ⟨fun _ => h, fun c => ⟨inN hs (by omega), fun _ => h, fun c2 => ?_⟩⟩
    rw [nI_clamp (by omega)] at c2
    have c2' : ¬ nI n ≤ nI (min n 12) := by rw [← hz]; exact c2
    have q1 : ¬ 12 ≤ min n 12 := fun q => c (show nI 12 ≤ nI (min n 12) from nI_le q (by omega))
    exact absurd (nI_le (show n ≤ min n 12 by omega) (by omega)) c2'
  · intro i hi ih
    have e1 : (16 : Int32) * nI s + nI i = nI (16 * s + i) := by
      show nI 16 * nI s + nI i = _
      rw [pk_mul, nI_add]
    have e2 : (10 : Int32) + nI i = nI (10 + i) := nI_add 10 i
    refine s_X12_lay_28 g _ P _ _ _ ⟨fun c => absurd (show nI 12 ≤ nI i from c) (nI_ge (by omega) (by omega)), fun _ => ⟨inN hs (by omega), ?_⟩⟩
    have e3 : su σ 169 (lm (σ 169) r i) 173 = σ 173 := rfl
    have e4 : su σ 169 (lm (σ 169) r i) 174 = σ 174 := rfl
    rw [nI_clamp (n := s) (by omega), e3, e4, hz, e1, nI_clamp (by omega), hr, su_same, su_su, e2, nI_clamp (by omega), nI_1]
    refine ⟨fun c => absurd c (nI_ge (by omega) (by omega)), fun _ => ⟨inN (by omega) (by omega), fun c => ⟨inN (by omega) (by omega), ?_⟩, fun c => ?_⟩⟩
    · rw [lm_y c]
      have e : sm (i + 1) (cn r) = sm i (cn r) + 1 := by
        show sm i (cn r) + cn r i = _
        rw [cn, if_pos c]
      rw [e] at ih; exact ih
    · rw [lm_n c]
      rw [sm_0 (by rw [cn, if_neg c])] at ih; exact ih
theorem sm_congr {n : Nat} {f h : Nat → Int32} (e : ∀ i, i < n → f i = h i) : sm n f = sm n h := by
  induction n with
  | zero => rfl
  | succ n ih =>
    show sm n f + f n = sm n h + h n
    rw [ih (fun i hi => e i (by omega)), e n (by omega)]
theorem op_lay (hI : Inv σ) : vt_Mi g 2 D_X11_lay [.ref (g.2.1 0), .int p1] σ (fun r σ1 => vt_Mi g 1 D_X12_lay [.ref (g.2.1 168), .int p1] σ1 (fun r' σ2 => r = r' ∧ Inv σ2)) := by
  obtain ⟨⟨t, nd, ns, nm, nl, lv, hN, hF, hR, hD, hS, hM, hL, hE, hV⟩, h2⟩ := id hI
  obtain ⟨⟨bt, bd, bs, bm, bl, bv⟩, ⟨xt, xv, xd, xs, xm, xl⟩, ⟨yt, yd, ys, ym, yl, yv⟩⟩ := id hN
  have xt : σ 1 9 = nI t := xt
  have xv : σ 1 8 = nI lv := xv
  have xd : σ 4 2 = nI nd := xd
  have xs : σ 7 7 = nI ns := xs
  have xm : σ 15 3 = nI nm := xm
  have xl : σ 19 5 = nI nl := xl
  obtain ⟨hi, htp, hw, hsh⟩ := id h2
  refine mI ok_X11_lay.1 rfl rfl rfl (s_X11_lay_0 g σ _ p1 ⟨fun c1 => ?_, fun c1 => ⟨_, rfl, mI ok_X12_lay.1 rfl rfl rfl (s_X12_lay_0 g _ _ p1 ⟨fun c => absurd (sh_is.mpr c) c1, fun _ => ⟨_, rfl, rfl, hI⟩⟩)⟩⟩)
  have c1' := sh_is.mp c1
  obtain ⟨s, hs, rfl⟩ := sh_nat c1
  have hq := sheet_iff.mp hsh s hs
  have is : vp_in (nI s) 2 := inN hs (by omega)
  rw [nI_clamp (by omega)]
  rcases sh_sz hq with ⟨a1, a2, a3, a4⟩ | ⟨n, hn, a1, a2, a3, a4, a5⟩
  · refine ⟨is, fun _ => ⟨_, rfl, mI ok_X12_lay.1 rfl rfl rfl (s_X12_lay_0 g _ _ (nI s) ⟨fun _ => ⟨is, ?_⟩, fun c => absurd c1' c⟩)⟩, fun c => absurd a1 c⟩
    rw [nI_clamp (by omega)]
    exact ⟨fun c => absurd c a3, fun _ => ⟨_, rfl, rfl, hI⟩⟩
  · refine ⟨is, fun c => absurd c a3, fun _ => ?_⟩
    have eB : (if (12 : Int32) < σ 115 s then (12 : Int32) else σ 115 s) = nI (min n 12) := by
      rw [a1]
      show (if nI 12 < nI n then nI 12 else nI n) = nI (min n 12)
      by_cases q : 12 < n
      · rw [if_pos (show nI 12 < nI n from nI_lt q (by omega)), show min n 12 = 12 by omega]
      · rw [if_neg (show ¬ nI 12 < nI n from nI_nlt (by omega) (by omega)), show min n 12 = n by omega]
    rw [eB]
    refine l_xlay hs (by omega) _ ⟨_, rfl, mI ok_X12_lay.1 rfl rfl rfl (s_X12_lay_0 g _ _ (nI s) ⟨fun _ => ⟨is, ?_⟩, fun c => absurd c1' c⟩)⟩
    have e5 : su σ 2 (lf (σ 2) (σ (113 + s)) (min n 12)) 173 = σ 173 := rfl
    rw [nI_clamp (by omega), e5]
    refine ⟨fun _ => ?_, fun c => absurd a4 c⟩
    refine l_mlay hs hn (show su σ 2 (lf (σ 2) (σ (113 + s)) (min n 12)) 173 s = nI n from a2) _ ?_
    have e6 : su σ 2 (lf (σ 2) (σ (113 + s)) (min n 12)) 174 = σ 174 := rfl
    have e7 : su σ 2 (lf (σ 2) (σ (113 + s)) (min n 12)) 169 = σ 169 := rfl
    rw [e6, e7]
    have hr : ∀ j, j < 16 → σ (113 + s) j = (fun j => σ 174 (16 * s + j)) j := fun j hj => (hq.2 j hj).1
    generalize (fun j => σ 174 (16 * s + j)) = r at hr
    refine ⟨_, rfl, sm_congr (fun i hi => by unfold cn; rw [hr i (by omega)]), ?_⟩
    have hn1 : ∀ j, (j < 10 ∨ 22 ≤ j) → lm (σ 169) r (min n 12) j = σ 169 j := fun j hj => if_neg (fun z => by omega)
    have hf : ∀ p, p < 12 → lm (σ 169) r (min n 12) (10 + p) = lf (σ 2) (σ (113 + s)) (min n 12) p ∧ ∃ v, 10 ≤ v ∧ v ≤ 999 ∧ lf (σ 2) (σ (113 + s)) (min n 12) p = nI v := by
      intro p hp
      have z : 10 + p - 10 = p := by omega
      have hrp := hr p (by omega)
      unfold lm lf
      rw [z, hrp]
      by_cases q : p < min n 12 ∧ (¬ r p < 10 ∧ ¬ 999 < r p)
      · rw [if_pos ⟨by omega, q.2⟩, if_pos q]
        obtain ⟨v, hv, ev⟩ := rng (fun y => q.2.1 (Int32.lt_trans y (by decide))) q.2.2 (n := 999) rfl
        refine ⟨rfl, v, ?_, hv, ev⟩
        exact Nat.le_of_not_lt fun y => q.2.1 (by rw [ev]; exact (show nI v < nI 10 from nI_lt y (by omega)))
      · rw [if_neg (fun y => q ⟨by omega, y.2⟩), if_neg q]
        exact hF p hp
    have hn : ∀ j, (j < 10 ∨ 22 ≤ j) → lm (σ 169) r (min n 12) j = σ 169 j := hn1
    generalize lm (σ 169) r (min n 12) = n' at hn hn1 hf
    generalize lf (σ 2) (σ (113 + s)) (min n 12) = f' at hf
    exact ⟨⟨t, nd, ns, nm, nl, lv, hN.fr (fun j _ => hn j (by omega)), hf, hR.fr (fun j _ _ => hn j (by omega)), hD.fr hN.1.2.1 (fun j _ _ => hn j (by omega)), hS.fr hN.1.2.2.1 (fun j _ _ => hn j (by omega)), hM.fr hN.1.2.2.2.1 (fun j _ _ => hn j (by omega)), hL.fr hN.1.2.2.2.2.1 (fun j _ _ => hn j (by omega)), (hE.cg hN.1.2.2.1 (fun s hs => by simp (disch := omega) only [su_ne]) (fun s hs => by simp (disch := omega) only [su_ne])).fr hN.1.2.2.1 (fun j _ _ => hn j (by omega)) (fun j _ _ => hn j (by omega)), hV.fr hN.1.2.2.2.2.2 (fun j _ _ => hn j (by omega))⟩, h2.1.cg (fun k hk => by simp (disch := omega) only [su_ne]), h2.2⟩
end OPS6
