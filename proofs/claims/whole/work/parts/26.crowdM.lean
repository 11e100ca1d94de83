/-! THE CROWD, the reference's side -/
section CROWDM
variable {g : vt_GT} {σ : vt_Sg} {p1 p2 p3 p4 p5 : Int32}
theorem mv_dec {c s t : Nat} {v : Int32} (hc : c ≤ 12) (hs : s < 12) (ht : t ≤ 120) (h : v = nI (c + 13 * s + 156 * t)) : v / 13 - v / 13 / 12 * 12 = nI s ∧ v / 156 = nI t ∧ v - v / 13 * 13 = nI c := by
  subst h
  have e1 : nI (c + 13 * s + 156 * t) / 13 = nI ((c + 13 * s + 156 * t) / 13) := pk_div (d := 13) (by omega) (by omega) (by omega)
  refine ⟨?_, ?_, ?_⟩
  · rw [e1]
    exact (pk_rem (d := 12) (by omega) (by omega) (by omega)).trans (congrArg nI (by omega))
  · exact (pk_div (d := 156) (by omega) (by omega) (by omega)).trans (congrArg nI (by omega))
  · exact (pk_rem (d := 13) (by omega) (by omega) (by omega)).trans (congrArg nI (by omega))
theorem opM_opC {o : Option Nat} : nI (opC o) - 1 = opM o := by
  cases o with
  | none => decide
  | some p => exact nI_pred p
theorem opC12 {o : Option Nat} (h : ∀ p, o = some p → p < 12) : opC o ≤ 12 := by
  cases o with
  | none => exact Nat.zero_le _
  | some p => exact h p rfl
theorem plc_none {ms mt : Nat → Nat} {mp : Nat → Option Nat} {m s : Nat} : ∀ k, (∀ i, i < k → ms i ≠ s) → plc ms mt mp m s k = none
  | 0, _ => rfl
  | k + 1, h => by
    rw [plc, if_neg (fun q => h k (by omega) q.1)]
    exact plc_none k (fun i hi => h i (by omega))
theorem plc_lt {ms mt : Nat → Nat} {mp : Nat → Option Nat} {m s : Nat} : ∀ k, (∀ i, i < k → ∀ p, mp i = some p → p < 12) → ∀ p, plc ms mt mp m s k = some p → p < 12
  | 0, _, p, e => by cases e
  | k + 1, h, p, e => by
    rw [plc] at e
    by_cases q : ms k = s ∧ mt k ≤ m
    · rw [if_pos q] at e; exact h k (by omega) p e
    · rw [if_neg q] at e; exact plc_lt k (fun i hi => h i (by omega)) p e
section PL
variable {t ns nm : Nat} {m1 m2 m3 n : Nat → Int32} {ms mt : Nat → Nat} {mp : Nat → Option Nat}
theorem A_mv.inj (hm : A_mv t ns nm m1 m2 m3 n ms mt mp) (hns : ns ≤ 12) (m : Nat) : inj12 (fun s => plc ms mt mp m s nm) :=
  ⟨fun s s' p h1 h2 => hm.2.2 m s s' p h1 h2, fun s p h => plc_lt nm (fun i hi p hp => (hm.1 i hi).2.2.2.2.2.2 p hp) p h, fun s hs => plc_none nm (fun i hi q => by have := (hm.1 i hi).2.2.2.2.1; omega)⟩
theorem A_mv.lt (hm : A_mv t ns nm m1 m2 m3 n ms mt mp) (m : Nat) : ∀ s, ns ≤ s → plc ms mt mp m s nm = none := fun s hs => plc_none nm (fun i hi q => by have := (hm.1 i hi).2.2.2.2.1; omega)
theorem c_X12_placeOf (h3 : σ 169 3 = nI nm) (hb : nm ≤ 200) (hm : A_mv t ns nm m1 m2 m3 (σ 169) ms mt mp) (hns : ns ≤ 12) (ht : t ≤ 120) {s m : Nat} (hs : s < 12) (hmm : m ≤ 120) (Φ : Int32 → vt_Sg → Prop) (h : Φ (opM (plc ms mt mp m s nm)) σ) : vt_Mi g 0 D_X12_placeOf [.ref (g.2.1 168), .int (nI s), .int (nI m)] σ Φ := by
  refine mI ok_X12_placeOf.1 rfl rfl rfl (s_X12_placeOf_0 g σ _ (nI s) (nI m) ?_)
  refine lpD nm (fun i => TT g (vt_R 0) 0 0 D_X12_placeOf none 5 [some (.ref (g.2.1 168)), some (.int (nI s)), some (.int (nI m)), some (.int (nI (opC (plc ms mt mp m s i)))), some (.int (nI i)), none] [] σ _) ?_ ?_
  · refine s_X12_placeOf_5 g σ _ _ _ _ _ ⟨fun _ => ⟨_, rfl, ?_⟩, fun c => absurd (by rw [h3]; exact nI_le (Nat.le_refl _) (by omega)) c⟩
    rw [opM_opC]; exact h
  · intro i hi ih
    obtain ⟨a1, a2, a3, a4, a5, a6, a7⟩ := hm.1 i hi
    obtain ⟨d1, d2, d3⟩ := mv_dec (opC12 a7) (by omega) (by omega) a4
    refine s_X12_placeOf_5 g σ _ _ _ _ _ ⟨fun c => absurd (by rw [h3] at c; exact c) (nI_ge hi (by omega)), fun _ => ?_⟩
    have e1 : (140 : Int32) + nI i = nI (140 + i) := nI_add 140 i
    rw [e1, nI_clamp (by omega), d1, d2, d3, nI_1]
    refine ⟨inN (by omega) (by omega), fun b => ?_, fun b => ⟨fun b2 => ?_, fun b2 => ?_⟩⟩
    · rw [plc, if_neg (fun q => b (congrArg nI q.1))] at ih; exact ih
    · rw [plc, if_neg (fun q => absurd b2 (nI_nlt q.2 (by omega)))] at ih; exact ih
    · rw [plc, if_pos ⟨nI_inj b (by omega) (by omega), Nat.le_of_not_lt (fun q => b2 (nI_lt q (by omega)))⟩] at ih; exact ih
theorem c_X12_findStands (h2 : σ 169 2 = nI ns) (h3 : σ 169 3 = nI nm) (hb : nm ≤ 200) (hm : A_mv t ns nm m1 m2 m3 (σ 169) ms mt mp) (hns : ns ≤ 12) (ht : t ≤ 120) {m : Nat} (hmm : m ≤ 120) (Φ : vt_Sg → Prop) (h : ∀ f : Nat → Int32, (∀ s, s < 12 → f s = opM (plc ms mt mp m s nm)) → Φ (su σ 175 f)) : vt_Mv g 1 D_X12_findStands [.ref (g.2.1 168), .int (nI m)] σ Φ := by
  refine mV ok_X12_findStands.1 rfl rfl rfl (s_X12_findStands_0 g σ _ (nI m) ?_)
  have l : TT g (vt_R 1) 0 0 D_X12_findStands none 2 [some (.ref (g.2.1 168)), some (.int (nI m)), some (.int (nI 0))] [] (su σ 175 (σ 175)) (fun w σ' => w = none ∧ Φ σ') :=
    lpS 12 (fun i f => TT g (vt_R 1) 0 0 D_X12_findStands none 2 [some (.ref (g.2.1 168)), some (.int (nI m)), some (.int (nI i))] [] (su σ 175 f) (fun w σ' => w = none ∧ Φ σ')) (fun i f => ∀ s, s < i → f s = opM (plc ms mt mp m s nm))
      (fun f hf => s_X12_findStands_2 g _ _ _ _ ⟨fun _ => ⟨rfl, h f hf⟩, fun c => absurd (show (12 : Int32) ≤ 12 from by decide) c⟩)
      (by
        intro i f hi hf ih
        have up : ∀ v, v = opM (plc ms mt mp m i nm) → ∀ s, s < i + 1 → upd f i v s = opM (plc ms mt mp m s nm) := by
          intro v hv s hs
          by_cases e : s = i
          · subst e; rw [upd_same, hv]
          · rw [upd_ne e]; exact hf s (by omega)
        refine s_X12_findStands_2 g _ _ _ _ ⟨fun c => absurd c (nI_ge (b := 12) hi (by omega)), fun _ => ⟨fun c => ⟨inN hi (by omega), ?_⟩, fun c => ?_⟩⟩
        · have c : σ 169 2 ≤ nI i := c
          rw [h2] at c
          rw [su_su, su_same, nI_clamp (by omega), nI_1]
          refine ih _ (up _ ?_)
          rw [hm.lt m i ((nI_leI (by omega) (by omega)).mp c)]; rfl
        · refine c_X12_placeOf (σ := su σ 175 f) h3 hb hm hns ht hi hmm _ ⟨inN hi (by omega), ?_⟩
          rw [su_su, su_same, nI_clamp (by omega), nI_1]
          exact ih _ (up _ rfl))
      0 (σ 175) (by omega) (fun s hs => absurd hs (by omega))
  rw [su_self] at l
  exact l
end PL
section PP
variable {A : Nat → Option Nat} {nd ns : Nat} {dp dq k so pu lu ne sp a : Nat → Int32}
theorem opM_sign {o : Option Nat} (h : ∀ w, o = some w → w < 12) : 0 ≤ opM o ↔ o.isSome = true := by
  cases o with
  | none => exact ⟨fun q => absurd q (by decide), fun q => by cases q⟩
  | some w => exact ⟨fun _ => rfl, fun _ => nI_pos' (by have := h w rfl; omega)⟩
theorem c_X12_pulls (hst : ∀ s, s < 12 → σ 175 s = opM (A s)) (hA : inj12 A) (hlt : ∀ s, ns ≤ s → A s = none) (hS : A_shops ns k so pu lu ne sp a (σ 169)) (Φ : Int32 → vt_Sg → Prop) (h : Φ (pul A pu) σ) : vt_Mi g 1 D_X12_pulls [.ref (g.2.1 168)] σ Φ := by
  refine mI ok_X12_pulls.1 rfl rfl rfl (s_X12_pulls_0 g σ _ ?_)
  unfold pul at h
  generalize hF : (fun s => if (A s).isSome then pu s else 0) = F at h
  refine lpD 12 (fun i => TT g (vt_R 1) 0 0 D_X12_pulls none 4 [some (.ref (g.2.1 168)), some (.int (sm i F)), some (.int (nI i))] [] σ _) ?_ ?_
  · exact s_X12_pulls_4 g σ _ _ _ ⟨fun _ => ⟨_, rfl, h⟩, fun c => absurd (show (12 : Int32) ≤ 12 from by decide) c⟩
  · intro i hi ih
    have fi : F i = if (A i).isSome then pu i else 0 := by rw [← hF]
    have sg := opM_sign (hA.2.1 i)
    refine s_X12_pulls_4 g σ _ _ _ ⟨fun c => absurd c (nI_ge (b := 12) hi (by omega)), fun _ => ⟨inN hi (by omega), ?_⟩⟩
    rw [nI_clamp (by omega), hst i hi, nI_1]
    refine ⟨fun c => ?_, fun c => ?_⟩
    · have hs : i < ns := Nat.lt_of_not_le (fun q => by have := sg.mp c; rw [hlt i q] at this; cases this)
      have e : (30 : Int32) + 8 * nI i + 2 = nI (30 + 8 * i + 2) := shop_ix (f := 2)
      rw [e, nI_clamp (by omega)]
      refine ⟨inN (by omega) (by omega), ?_⟩
      have v : σ 169 (30 + 8 * i + 2) = pu i := by rw [show 30 + 8 * i + 2 = 32 + 8 * i by omega]; exact (hS i hs).2.2.1
      have e2 : sm (i + 1) F = sm i F + pu i := by
        show sm i F + F i = _
        rw [fi, if_pos (sg.mp c)]
      rw [e2] at ih; rw [v]; exact ih
    · rw [sm_0 (by rw [fi, if_neg (fun q => c (sg.mpr q))])] at ih; rw [Int32.add_zero]; exact ih
theorem c_X12_goFrom (hst : ∀ s, s < 12 → σ 175 s = opM (A s)) (hA : inj12 A) (hlt : ∀ s, ns ≤ s → A s = none) (hS : A_shops ns k so pu lu ne sp a (σ 169)) (hD : A_doors nd dp dq (σ 169)) (hnd : nd ≤ 4) {d s : Nat} (hd : d < nd) (hs : s < 12) (Φ : Int32 → vt_Sg → Prop) (h : Φ (gof A pu dq d s) σ) : vt_Mi g 1 D_X12_goFrom [.ref (g.2.1 168), .int (nI d), .int (nI s), .int (pul A pu)] σ Φ := by
  have sg := opM_sign (hA.2.1 s)
  have e1 : (22 : Int32) + 2 * nI d + 1 = nI (23 + 2 * d) := (lin1 22 2 d).trans (congrArg nI (by omega))
  have e : (30 : Int32) + 8 * nI s + 2 = nI (30 + 8 * s + 2) := shop_ix (f := 2)
  refine mI ok_X12_goFrom.1 rfl rfl rfl (s_X12_goFrom_0 g σ _ (nI d) (nI s) (pul A pu) ?_)
  rw [e1, e, nI_clamp (by omega), nI_clamp (by omega), nI_clamp (by omega), hst s hs]
  refine ⟨fun c => ⟨_, rfl, ?_⟩, fun c => ⟨inN hs (by omega), fun c2 => ⟨inN (by omega) (by omega), inN (by omega) (by omega), _, rfl, ?_⟩, fun c2 => ⟨_, rfl, ?_⟩⟩⟩
  · rw [gof, if_pos c] at h; exact h
  · have hs : s < ns := Nat.lt_of_not_le (fun q => by have := sg.mp c2; rw [hlt s q] at this; cases this)
    have v : σ 169 (30 + 8 * s + 2) = pu s := by rw [show 30 + 8 * s + 2 = 32 + 8 * s by omega]; exact (hS s hs).2.2.1
    rw [gof, if_neg c, if_pos (sg.mp c2)] at h
    rw [v, (hD d hd).2]; exact h
  · rw [gof, if_neg c, if_neg (fun q => c2 (sg.mpr q))] at h; exact h
theorem c_X12_comers (hst : ∀ s, s < 12 → σ 175 s = opM (A s)) (hA : inj12 A) (hlt : ∀ s, ns ≤ s → A s = none) (hS : A_shops ns k so pu lu ne sp a (σ 169)) (hD : A_doors nd dp dq (σ 169)) (hnd : nd ≤ 4) (h1 : σ 169 1 = nI nd) {s : Nat} (hs : s < 12) (Φ : Int32 → vt_Sg → Prop) (h : Φ (cmr A pu dq nd s) σ) : vt_Mi g 2 D_X12_comers [.ref (g.2.1 168), .int (nI s)] σ Φ := by
  refine mI ok_X12_comers.1 rfl rfl rfl (s_X12_comers_0 g σ _ (nI s) (c_X12_pulls hst hA hlt hS _ ?_))
  unfold cmr at h
  generalize hF : (fun d => gof A pu dq d s) = F at h
  refine lpD nd (fun i => TT g (vt_R 2) 0 0 D_X12_comers none 10 [some (.ref (g.2.1 168)), some (.int (nI s)), some (.int (pul A pu)), some (.int (sm i F)), some (.int (nI i))] [] σ _) ?_ ?_
  · exact s_X12_comers_10 g σ _ _ _ _ _ ⟨fun _ => ⟨_, rfl, h⟩, fun c => absurd (by rw [h1]; exact nI_le (Nat.le_refl _) (by omega)) c⟩
  · intro i hi ih
    refine s_X12_comers_10 g σ _ _ _ _ _ ⟨fun c => absurd (by rw [h1] at c; exact c) (nI_ge hi (by omega)), fun _ => c_X12_goFrom hst hA hlt hS hD hnd hi hs _ ?_⟩
    rw [nI_1]
    have e2 : sm (i + 1) F = sm i F + gof A pu dq i s := by
      show sm i F + F i = _
      rw [← hF]
    rw [e2] at ih; exact ih
theorem ovr_iff {f q p : Int32} : (¬ q = p ∧ ¬ p < (if q < f then q else f) ∧ ¬ (if f < q then q else f) < p) ↔ ovr f q p = true := by
  unfold ovr
  rw [Bool.or_eq_true, Bool.and_eq_true, Bool.and_eq_true, decide_eq_true_eq, decide_eq_true_eq, decide_eq_true_eq, decide_eq_true_eq]
  by_cases c1 : q < f
  · rw [if_pos c1]
    have c2 : ¬ f < q := fun z => Int32.lt_irrefl (Int32.lt_trans c1 z)
    rw [if_neg c2]
    simp only [Int32.lt_iff_toInt_lt, Int32.le_iff_toInt_le, ← Int32.toInt_inj] at *
    omega
  · rw [if_neg c1]
    by_cases c2 : f < q
    · rw [if_pos c2]
      simp only [Int32.lt_iff_toInt_lt, Int32.le_iff_toInt_le, ← Int32.toInt_inj] at *
      omega
    · rw [if_neg c2]
      simp only [Int32.lt_iff_toInt_lt, Int32.le_iff_toInt_le, ← Int32.toInt_inj] at *
      omega
theorem c_X12_passers (hst : ∀ s, s < 12 → σ 175 s = opM (A s)) (hA : inj12 A) (hlt : ∀ s, ns ≤ s → A s = none) (hS : A_shops ns k so pu lu ne sp a (σ 169)) (hD : A_doors nd dp dq (σ 169)) (hnd : nd ≤ 4) (h1 : σ 169 1 = nI nd) (p : Int32) (Φ : Int32 → vt_Sg → Prop) (h : Φ (pst A pu dp dq nd p) σ) : vt_Mi g 2 D_X12_passers [.ref (g.2.1 168), .int p] σ Φ := by
  refine mI ok_X12_passers.1 rfl rfl rfl (s_X12_passers_0 g σ _ p (c_X12_pulls hst hA hlt hS _ ?_))
  unfold pst at h
  refine lpD nd (fun i => TT g (vt_R 2) 0 0 D_X12_passers none 10 [some (.ref (g.2.1 168)), some (.int p), some (.int (pul A pu)), some (.int (sm i (psd A pu dp dq p))), some (.int (nI i)), none, none, none] [] σ _) ?_ ?_
  · exact s_X12_passers_10 g σ _ _ _ _ _ ⟨fun _ => ⟨_, rfl, h⟩, fun c => absurd (by rw [h1]; exact nI_le (Nat.le_refl _) (by omega)) c⟩
  · intro i hi ih
    have e1 : (22 : Int32) + 2 * nI i = nI (22 + 2 * i) := lin 22 2 i
    refine s_X12_passers_10 g σ _ _ _ _ _ ⟨fun c => absurd (by rw [h1] at c; exact c) (nI_ge hi (by omega)), fun _ => ?_⟩
    rw [e1, nI_clamp (by omega), (hD i hi).1]
    refine ⟨inN (by omega) (by omega), ?_⟩
    have ih : TT g (vt_R 2) 0 0 D_X12_passers none 10 [some (.ref (g.2.1 168)), some (.int p), some (.int (pul A pu)), some (.int (sm i (psd A pu dp dq p) + psd A pu dp dq p i)), some (.int (nI (i + 1))), none, none, none] [] σ (fun v σ' => ∃ r, v = some (Value.int r) ∧ Φ r σ') := ih
    generalize sm i (psd A pu dp dq p) = X at ih
    unfold psd at ih
    generalize hF : (fun s => match A s with | none => (0 : Int32) | some q => if ovr (dp i) (nI q) p then gof A pu dq i s else 0) = F at ih
    have l : TT g (vt_R 2) 0 0 D_X12_passers none 38 [some (.ref (g.2.1 168)), some (.int p), some (.int (pul A pu)), some (.int (X + sm 0 F)), some (.int (nI i)), some (.int (dp i)), some (.int (nI 0)), none] [] σ (fun v σ' => ∃ r, v = some (Value.int r) ∧ Φ r σ') := by
      refine lpD 12 (fun j => TT g (vt_R 2) 0 0 D_X12_passers none 38 [some (.ref (g.2.1 168)), some (.int p), some (.int (pul A pu)), some (.int (X + sm j F)), some (.int (nI i)), some (.int (dp i)), some (.int (nI j)), none] [] σ _) ?_ ?_
      · refine s_X12_passers_38 g σ _ _ _ _ _ _ _ ⟨fun _ => ?_, fun c => absurd (show (12 : Int32) ≤ 12 from by decide) c⟩
        rw [nI_1]
        exact ih
      · intro j hj jh
        have fj : F j = match A j with | none => (0 : Int32) | some q => if ovr (dp i) (nI q) p then gof A pu dq i j else 0 := by rw [← hF]
        have no : F j = 0 → TT g (vt_R 2) 0 0 D_X12_passers none 38 [some (.ref (g.2.1 168)), some (.int p), some (.int (pul A pu)), some (.int (X + sm j F + 0)), some (.int (nI i)), some (.int (dp i)), some (.int (nI j + 1)), none] [] σ (fun v σ' => ∃ r, v = some (Value.int r) ∧ Φ r σ') := by
          intro q
          rw [sm_0 q] at jh
          rw [Int32.add_zero, nI_1]
          exact jh
        refine s_X12_passers_38 g σ _ _ _ _ _ _ _ ⟨fun c => absurd c (nI_ge (b := 12) hj (by omega)), fun _ => ⟨inN hj (by omega), ?_⟩⟩
        rw [nI_clamp (by omega), hst j hj]
        cases ha : A j with
        | none =>
          rw [ha] at fj
          exact ⟨fun _ => no fj, fun c => absurd (show opM none < 0 by decide) c⟩
        | some q =>
          rw [ha] at fj
          have fj : F j = if ovr (dp i) (nI q) p then gof A pu dq i j else 0 := fj
          have oi := ovr_iff (f := dp i) (q := nI q) (p := p)
          refine ⟨fun c => absurd c (nI_pos (by have := hA.2.1 j q ha; omega)), fun _ => ⟨fun c => no ?_, fun c => ⟨fun c2 => ?_, fun c2 => no ?_⟩⟩⟩
          · rw [fj, if_neg (fun z => (oi.mpr z).1 c)]
          · refine c_X12_goFrom hst hA hlt hS hD hnd hi hj _ ?_
            have e2 : X + sm (j + 1) F = X + sm j F + gof A pu dq i j := by
              show X + (sm j F + F j) = _
              rw [fj, if_pos (oi.mp ⟨c, c2⟩), Int32.add_assoc]
            rw [e2] at jh
            rw [nI_1]; exact jh
          · rw [fj, if_neg (fun z => c2 (oi.mpr z).2)]
    rw [show X + sm 0 F = X from Int32.add_zero X] at l
    exact l
theorem c_X12_foretold (hst : ∀ s, s < 12 → σ 175 s = opM (A s)) (hA : inj12 A) (hlt : ∀ s, ns ≤ s → A s = none) (hns : ns ≤ 12) (hS : A_shops ns k so pu lu ne sp a (σ 169)) (hD : A_doors nd dp dq (σ 169)) (hnd : nd ≤ 4) (h1 : σ 169 1 = nI nd) {s : Nat} (hs : s < ns) (Φ : Int32 → vt_Sg → Prop) (h : Φ ((cmr A pu dq nd s + pst A pu dp dq nd (opM (A s)) * lu s / 1000) * sp s) σ) : vt_Mi g 3 D_X12_foretold [.ref (g.2.1 168), .int (nI s)] σ Φ := by
  have e4 : (30 : Int32) + 8 * nI s + 4 = nI (30 + 8 * s + 4) := shop_ix (f := 4)
  have e3 : (30 : Int32) + 8 * nI s + 3 = nI (30 + 8 * s + 3) := shop_ix (f := 3)
  refine mI ok_X12_foretold.1 rfl rfl rfl (s_X12_foretold_0 g σ _ (nI s) (c_X12_comers hst hA hlt hS hD hnd h1 (by omega) _ ⟨inN (by omega) (by omega), c_X12_passers hst hA hlt hS hD hnd h1 _ _ ?_⟩))
  rw [e4, e3, nI_clamp (by omega), nI_clamp (by omega), nI_clamp (by omega), hst s (by omega)]
  refine ⟨inN (by omega) (by omega), inN (by omega) (by omega), _, rfl, ?_⟩
  rw [show 30 + 8 * s + 4 = 34 + 8 * s by omega, show 30 + 8 * s + 3 = 33 + 8 * s by omega, (hS s hs).2.2.2.2.1, (hS s hs).2.2.2.1]
  exact h
end PP
end CROWDM
