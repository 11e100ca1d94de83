/-! THE CROWD, the component's side -/
section CROWDX
variable {g : vt_GT} {σ : vt_Sg} {p1 p2 p3 p4 p5 : Int32} {A : Nat → Option Nat} {nd ns : Nat}
theorem ovr_T {f q p : Int32} : ovr f q p = true ↔ ((f ≤ p ∧ p < q) ∨ (q < p ∧ p ≤ f)) := by
  unfold ovr
  rw [Bool.or_eq_true, Bool.and_eq_true, Bool.and_eq_true, decide_eq_true_eq, decide_eq_true_eq, decide_eq_true_eq, decide_eq_true_eq]
def bC (B : Option Nat) (s : Nat) (v : Nat → Int32) : Int32 := match B with
  | none => 0
  | some s' => if s' = s then v s' else 0
def bP (B : Option Nat) (b : Bool) (v : Nat → Int32) : Int32 := match B with
  | none => 0
  | some s => if b then v s else 0
theorem l_walk {v fr z : Int32} {d p s : Nat} (hp : p < 12) (f0 : Nat → Int32) (P : Option Value → vt_Sg → Prop) (hP : ∀ f : Nat → Int32, (∀ j, j < 12 → f j = f0 j + (if ovr fr (nI p) (nI j) then v else 0)) → P none (su σ 120 f)) :
    TT g (vt_R 0) 0 0 D_X2_walk none 79 [some (.ref (g.2.1 116)), some (.int (nI d)), some (.int (nI p)), some (.int z), some (.int (nI s)), some (.int v), some (.int fr), some (.int (nI 0)), none] [] (su σ 120 f0) P :=
  lpS 12 (fun i f => TT g (vt_R 0) 0 0 D_X2_walk none 79 [some (.ref (g.2.1 116)), some (.int (nI d)), some (.int (nI p)), some (.int z), some (.int (nI s)), some (.int v), some (.int fr), some (.int (nI i)), none] [] (su σ 120 f) P)
    (fun i f => (∀ j, j < i → f j = f0 j + (if ovr fr (nI p) (nI j) then v else 0)) ∧ ∀ j, i ≤ j → f j = f0 j)
    (fun f hf => s_X2_walk_79 g _ _ _ _ _ _ _ _ _ ⟨fun _ => hP f hf.1, fun c => absurd (show (12 : Int32) ≤ 12 from by decide) c⟩)
    (by
      intro i f hi hf ih
      have ot := ovr_T (f := fr) (q := nI p) (p := nI i)
      have no : ¬ ovr fr (nI p) (nI i) = true → TT g (vt_R 0) 0 0 D_X2_walk none 79 [some (.ref (g.2.1 116)), some (.int (nI d)), some (.int (nI p)), some (.int z), some (.int (nI s)), some (.int v), some (.int fr), some (.int (nI i + 1)), none] [] (su σ 120 f) P := by
        intro q
        rw [nI_1]
        refine ih f ⟨fun j hj => ?_, fun j hj => hf.2 j (by omega)⟩
        by_cases e : j = i
        · subst e; rw [hf.2 j (by omega), if_neg q, Int32.add_zero]
        · exact hf.1 j (by omega)
      have yes : ovr fr (nI p) (nI i) = true → vp_in (nI i) 12 ∧ TT g (vt_R 0) 0 0 D_X2_walk none 79 [some (.ref (g.2.1 116)), some (.int (nI d)), some (.int (nI p)), some (.int z), some (.int (nI s)), some (.int v), some (.int fr), some (.int (nI i + 1)), none] [] (su (su σ 120 f) 120 (upd (su σ 120 f 120) (nI i).toNatClampNeg (su σ 120 f 120 (nI i).toNatClampNeg + v))) P := by
        intro q
        rw [nI_1, su_su, su_same, nI_clamp (by omega)]
        refine ⟨inN hi (by omega), ih _ ⟨fun j hj => ?_, fun j hj => ?_⟩⟩
        · by_cases e : j = i
          · subst e; rw [upd_same, hf.2 j (by omega), if_pos q]
          · rw [upd_ne e]; exact hf.1 j (by omega)
        · rw [upd_ne (by omega)]; exact hf.2 j (by omega)
      refine s_X2_walk_79 g _ _ _ _ _ _ _ _ _ ⟨fun c => absurd c (nI_ge (b := 12) hi (by omega)), fun _ => ⟨fun a => ⟨fun b => no (fun q => ?_), fun b => ⟨fun c => no (fun q => ?_), fun c => yes (ot.mpr ?_)⟩⟩, fun a => ⟨fun b => yes (ot.mpr ?_), fun b => ⟨fun c => no (fun q => ?_), fun c => ⟨fun e => no (fun q => ?_), fun e => yes (ot.mpr ?_)⟩⟩⟩⟩⟩
      all_goals
        first | (have q := ot.mp q) | skip
        simp only [Int32.lt_iff_toInt_lt, Int32.le_iff_toInt_le] at *
        omega)
    0 f0 (by omega) ⟨fun j hj => absurd hj (by omega), fun _ _ => rfl⟩
theorem c_X2_walk {d p : Nat} (hd : d < 4) (hp : p < 12) {B : Option Nat} (hB : σ 118 p = opN B) (hB2 : ∀ s, B = some s → s < 12) {z : Int32} (hz : ¬ z = 0) (Φ : vt_Sg → Prop)
    (h : ∀ c f : Nat → Int32, (∀ s, s < 12 → c s = σ 119 s + bC B s (fun s' => σ 6 d * σ 10 s' / z)) → (∀ j, j < 12 → f j = σ 120 j + bP B (ovr (σ 5 d) (nI p) (nI j)) (fun s => σ 6 d * σ 10 s / z)) → Φ (su (su σ 119 c) 120 f)) :
    vt_Mv g 0 D_X2_walk [.ref (g.2.1 116), .int (nI d), .int (nI p), .int z] σ Φ := by
  refine mV ok_X2_walk.1 rfl rfl rfl (s_X2_walk_0 g σ _ (nI d) (nI p) z ?_)
  rw [nI_clamp (n := p) (by omega), nI_clamp (n := d) (by omega), hB]
  cases B with
  | none =>
    refine ⟨inN hp (by omega), fun _ => ⟨rfl, ?_⟩, fun c => absurd rfl c⟩
    have l := h (σ 119) (σ 120) (fun s _ => (Int32.add_zero _).symm) (fun s _ => (Int32.add_zero _).symm)
    rw [su_self, su_self] at l
    exact l
  | some s =>
    have hs := hB2 s rfl
    have e : opN (some s) = nI s := rfl
    rw [e, nI_clamp (by omega)]
    refine ⟨inN hp (by omega), fun c => absurd c (nI_neNONE (by omega)), fun _ => ⟨fun _ => ⟨inN hd (by omega), inN hs (by omega), ?_⟩, fun c => absurd c hz⟩⟩
    have l := l_walk (g := g) (σ := su σ 119 (upd (σ 119) s (σ 119 s + σ 6 d * σ 10 s / z))) (v := σ 6 d * σ 10 s / z) (fr := σ 5 d) (z := z) (d := d) (p := p) (s := s) hp (σ 120) (fun w σ' => w = none ∧ Φ σ') (fun f hf => ⟨rfl, h _ f (fun s' hs' => ?_) hf⟩)
    · have e2 : su (su σ 119 (upd (σ 119) s (σ 119 s + σ 6 d * σ 10 s / z))) 120 (σ 120) = su σ 119 (upd (σ 119) s (σ 119 s + σ 6 d * σ 10 s / z)) := su_self (su σ 119 (upd (σ 119) s (σ 119 s + σ 6 d * σ 10 s / z))) 120
      rw [e2] at l
      exact l
    · by_cases q : s' = s
      · subst q; rw [upd_same]; show _ = _ + (if s' = s' then _ else _); rw [if_pos rfl]
      · rw [upd_ne q]; show _ = _ + (if s = s' then _ else _); rw [if_neg (fun z => q z.symm), Int32.add_zero]
/-- the same but for the crowd's cells -/
def Fm (σ τ : vt_Sg) : Prop := (∀ k, k ≠ 116 → k ≠ 118 → k ≠ 119 → k ≠ 120 → τ k = σ k) ∧ τ 116 1 = σ 116 1
theorem Fm.tr {σ τ υ : vt_Sg} (h : Fm σ τ) (h' : Fm τ υ) : Fm σ υ := ⟨fun k a b c d => (h'.1 k a b c d).trans (h.1 k a b c d), h'.2.trans h.2⟩
theorem gof_0 {pu dq : Nat → Int32} {d s : Nat} (h : A s = none) : gof A pu dq d s = 0 := by
  unfold gof
  split
  · rfl
  · rw [h]; rfl
theorem gof_s {pu dq : Nat → Int32} {d s q : Nat} (h : A s = some q) (h0 : ¬ pul A pu = 0) : gof A pu dq d s = dq d * pu s / pul A pu := by
  unfold gof
  rw [if_neg h0, h]; rfl
/-- one door's people, place by place -/
def wkC (A : Nat → Option Nat) (pu dq : Nat → Int32) (d s p : Nat) : Int32 := match Bf A 12 p with
  | none => 0
  | some s' => if s' = s then gof A pu dq d s' else 0
def wkP (A : Nat → Option Nat) (pu dp dq : Nat → Int32) (d j p : Nat) : Int32 := match Bf A 12 p with
  | none => 0
  | some s => if ovr (dp d) (nI p) (nI j) then gof A pu dq d s else 0
theorem wkC_sum (hA : inj12 A) {pu dq : Nat → Int32} {d s : Nat} (hs : s < 12) : sm 12 (wkC A pu dq d s) = gof A pu dq d s := by
  have e : sm 12 (wkC A pu dq d s) = _ := sm_places hA (fun s' _ => if s' = s then gof A pu dq d s' else 0)
  rw [e, sm_one hs (fun i hi hne => by cases A i with | none => rfl | some q => exact if_neg hne)]
  cases ha : A s with
  | none => exact (gof_0 ha).symm
  | some q => exact if_pos rfl
theorem wkP_sum (hA : inj12 A) {pu dp dq : Nat → Int32} {d j : Nat} : sm 12 (wkP A pu dp dq d j) = psd A pu dp dq (nI j) d :=
  sm_places hA (fun s p => if ovr (dp d) (nI p) (nI j) then gof A pu dq d s else 0)
theorem l_settleP {x1 : Int32} (hA : inj12 A) {d : Nat} (hd : d < 4) (hB : ∀ p, p < 12 → σ 118 p = opN (Bf A 12 p)) (hx : x1 = pul A (σ 10)) (h0 : ¬ x1 = 0) (P : Option Value → vt_Sg → Prop)
    (h : ∀ τ, Fm σ τ → τ 116 = σ 116 → τ 118 = σ 118 → (∀ s, s < 12 → τ 119 s = σ 119 s + gof A (σ 10) (σ 6) d s) → (∀ j, j < 12 → τ 120 j = σ 120 j + psd A (σ 10) (σ 5) (σ 6) (nI j) d) → TT g (vt_R 1) 0 0 D_X2_settle none 106 [some (.ref (g.2.1 116)), some (.int x1), some (.int (nI d + 1)), none] [] τ P) :
    TT g (vt_R 1) 0 0 D_X2_settle none 122 [some (.ref (g.2.1 116)), some (.int x1), some (.int (nI d)), some (.int (nI 0))] [] σ P := by
  refine lpS 12 (fun i τ => TT g (vt_R 1) 0 0 D_X2_settle none 122 [some (.ref (g.2.1 116)), some (.int x1), some (.int (nI d)), some (.int (nI i))] [] τ P)
    (fun i τ => (Fm σ τ ∧ τ 116 = σ 116 ∧ τ 118 = σ 118) ∧ (∀ s, s < 12 → τ 119 s = σ 119 s + sm i (wkC A (σ 10) (σ 6) d s)) ∧ (∀ j, j < 12 → τ 120 j = σ 120 j + sm i (wkP A (σ 10) (σ 5) (σ 6) d j)))
    ?_ ?_ 0 σ (by omega) ⟨⟨⟨fun _ _ _ _ _ => rfl, rfl⟩, rfl, rfl⟩, fun s _ => (Int32.add_zero _).symm, fun s _ => (Int32.add_zero _).symm⟩
  · intro τ ⟨⟨a1, a2, a3⟩, a4, a5⟩
    exact s_X2_settle_122 g _ _ _ _ _ ⟨fun _ => h τ a1 a2 a3 (fun s hs => by rw [a4 s hs, wkC_sum hA hs]) (fun j hj => by rw [a5 j hj, wkP_sum hA]), fun c => absurd (show (12 : Int32) ≤ 12 from by decide) c⟩
  · intro i τ hi ⟨⟨a1, a2, a3⟩, a4, a5⟩ ih
    have f5 : τ 5 = σ 5 := a1.1 5 (by omega) (by omega) (by omega) (by omega)
    have f6 : τ 6 = σ 6 := a1.1 6 (by omega) (by omega) (by omega) (by omega)
    have f10 : τ 10 = σ 10 := a1.1 10 (by omega) (by omega) (by omega) (by omega)
    refine s_X2_settle_122 g _ _ _ _ _ ⟨fun c => absurd c (nI_ge (b := 12) hi (by omega)), fun _ => c_X2_walk (σ := τ) hd hi (by rw [a3]; exact hB i hi) (fun s hs => (Bf_some hs).1) h0 _ (fun c f hc hf => ?_)⟩
    rw [nI_1]
    rw [f6, f10] at hc
    rw [f5, f6, f10] at hf
    refine ih _ ⟨⟨⟨fun k b1 b2 b3 b4 => ?_, a1.2⟩, a2, a3⟩, fun s hs => ?_, fun j hj => ?_⟩
    · rw [su_ne b4, su_ne b3]; exact a1.1 k b1 b2 b3 b4
    · show c s = _
      rw [hc s hs, a4 s hs]
      show _ = σ 119 s + (sm i (wkC A (σ 10) (σ 6) d s) + wkC A (σ 10) (σ 6) d s i)
      rw [Int32.add_assoc]
      congr 2
      unfold wkC bC
      cases hb : Bf A 12 i with
      | none => rfl
      | some s' => exact congrArg (fun w => if s' = s then w else 0) (by rw [hx]; exact (gof_s (Bf_some hb).2 (by rw [← hx]; exact h0)).symm)
    · show f j = _
      rw [hf j hj, a5 j hj]
      show _ = σ 120 j + (sm i (wkP A (σ 10) (σ 5) (σ 6) d j) + wkP A (σ 10) (σ 5) (σ 6) d j i)
      rw [Int32.add_assoc]
      congr 2
      unfold wkP bP
      cases hb : Bf A 12 i with
      | none => rfl
      | some s' => exact congrArg (fun w => if ovr (σ 5 d) (nI i) (nI j) then w else 0) (by rw [hx]; exact (gof_s (Bf_some hb).2 (by rw [← hx]; exact h0)).symm)
theorem c_X2_settle (hp : ∀ s, s < 12 → σ 117 s = opN (A s)) (hA : inj12 A) (hlt : ∀ s, ns ≤ s → A s = none) (hns : ns ≤ 12) (h7 : σ 7 7 = nI ns) (hnd : nd ≤ 4) (h4 : σ 4 2 = nI nd) (Φ : vt_Sg → Prop) (h : ∀ τ, Fm σ τ → CR τ A nd → Φ τ) : vt_Mv g 1 D_X2_settle [.ref (g.2.1 116)] σ Φ := by
  refine mV ok_X2_settle.1 rfl rfl rfl (s_X2_settle_0 g σ _ ?_)
  refine c_fill (σ := σ) (ka := 118) (na := 12) ar_118 (by omega) _ (fun f8 h8 _ => c_fill (σ := su σ 118 f8) (ka := 119) (na := 12) ar_119 (by omega) _ (fun f9 h9 _ => c_fill (σ := su (su σ 118 f8) 119 f9) (ka := 120) (na := 12) ar_120 (by omega) _ (fun f0 h0 _ => ?_)))
  generalize hτ : su (su (su (su σ 118 f8) 119 f9) 120 f0) 116 _ = τ0
  have t8 : τ0 118 = f8 := by rw [← hτ]; rfl
  have t9 : τ0 119 = f9 := by rw [← hτ]; rfl
  have t0 : τ0 120 = f0 := by rw [← hτ]; rfl
  have t6 : τ0 116 2 = 0 := by rw [← hτ]; rfl
  have tf : Fm σ τ0 := by
    rw [← hτ]
    exact ⟨fun k a b c d => by rw [su_ne a, su_ne d, su_ne c, su_ne b], rfl⟩
  clear hτ
  refine lpS ns (fun i τ => TT g (vt_R 1) 0 0 D_X2_settle none 34 [some (.ref (g.2.1 116)), some (.int (sm i (fun s => if (A s).isSome then σ 10 s else 0))), some (.int (nI i)), none] [] τ _)
    (fun i τ => Fm σ τ ∧ (∀ p, p < 12 → τ 118 p = opN (Bf A i p)) ∧ τ 116 2 = cnt A i ∧ (∀ s, s < 12 → τ 119 s = 0) ∧ ∀ p, p < 12 → τ 120 p = 0)
    ?_ ?_ 0 τ0 (by omega) ⟨tf, fun p hp => by rw [t8, h8 p hp]; rfl, t6, fun s hs => by rw [t9, h9 s hs], fun s hs => by rw [t0, h0 s hs]⟩
  · intro τ ⟨a1, a2, a3, a4, a5⟩
    have f7 : τ 7 = σ 7 := a1.1 7 (by omega) (by omega) (by omega) (by omega)
    have f4 : τ 4 = σ 4 := a1.1 4 (by omega) (by omega) (by omega) (by omega)
    have f5 : τ 5 = σ 5 := a1.1 5 (by omega) (by omega) (by omega) (by omega)
    have f6 : τ 6 = σ 6 := a1.1 6 (by omega) (by omega) (by omega) (by omega)
    have f10 : τ 10 = σ 10 := a1.1 10 (by omega) (by omega) (by omega) (by omega)
    have f117 : τ 117 = σ 117 := a1.1 117 (by omega) (by omega) (by omega) (by omega)
    have e1 : sm ns (fun s => if (A s).isSome then σ 10 s else 0) = pul A (σ 10) := (sm_more hns (fun i hi _ => by rw [hlt i hi]; rfl)).symm
    have e2 : cnt A ns = cnt A 12 := (sm_more hns (fun i hi _ => by rw [hlt i hi]; rfl)).symm
    have e3 : ∀ p, Bf A ns p = Bf A 12 p := fun p => (Bf_more hns hlt).symm
    rw [e1]
    refine s_X2_settle_34 g _ _ _ _ ⟨fun _ => ⟨fun c => ?_, fun c => ⟨rfl, h τ a1 ⟨fun s hs => by rw [f117]; exact hp s hs, fun p hp => by rw [a2 p hp, e3], by rw [a3, e2], fun s hs => ?_, fun p hp => ?_⟩⟩⟩, fun c => absurd (by rw [f7, h7]; exact nI_le (Nat.le_refl _) (by omega)) c⟩
    · refine lpS nd (fun i υ => TT g (vt_R 1) 0 0 D_X2_settle none 106 [some (.ref (g.2.1 116)), some (.int (pul A (σ 10))), some (.int (nI i)), none] [] υ _)
        (fun i υ => (Fm τ υ ∧ υ 116 = τ 116 ∧ υ 118 = τ 118) ∧ (∀ s, s < 12 → υ 119 s = sm i (fun d => gof A (σ 10) (σ 6) d s)) ∧ ∀ p, p < 12 → υ 120 p = sm i (psd A (σ 10) (σ 5) (σ 6) (nI p)))
        ?_ ?_ 0 τ (by omega) ⟨⟨⟨fun _ _ _ _ _ => rfl, rfl⟩, rfl, rfl⟩, a4, a5⟩
      · intro υ ⟨⟨b1, b2, b3⟩, b4, b5⟩
        have g4 : υ 4 = σ 4 := (b1.1 4 (by omega) (by omega) (by omega) (by omega)).trans f4
        have g5 : υ 5 = σ 5 := (b1.1 5 (by omega) (by omega) (by omega) (by omega)).trans f5
        have g6 : υ 6 = σ 6 := (b1.1 6 (by omega) (by omega) (by omega) (by omega)).trans f6
        have g10 : υ 10 = σ 10 := (b1.1 10 (by omega) (by omega) (by omega) (by omega)).trans f10
        have g117 : υ 117 = σ 117 := (b1.1 117 (by omega) (by omega) (by omega) (by omega)).trans f117
        refine s_X2_settle_106 g _ _ _ _ ⟨fun _ => ⟨rfl, h υ (a1.tr b1) ⟨fun s hs => by rw [g117]; exact hp s hs, fun p hp => by rw [b3, a2 p hp, e3], by rw [b2, a3, e2], fun s hs => ?_, fun p hp => ?_⟩⟩, fun c => absurd (by rw [g4, h4]; exact nI_le (Nat.le_refl _) (by omega)) c⟩
        · rw [g10, g6, b4 s hs]; rfl
        · rw [g10, g5, g6, b5 p hp]; rfl
      · intro i υ hi ⟨⟨b1, b2, b3⟩, b4, b5⟩ ih
        have g4 : υ 4 = σ 4 := (b1.1 4 (by omega) (by omega) (by omega) (by omega)).trans f4
        have g5 : υ 5 = σ 5 := (b1.1 5 (by omega) (by omega) (by omega) (by omega)).trans f5
        have g6 : υ 6 = σ 6 := (b1.1 6 (by omega) (by omega) (by omega) (by omega)).trans f6
        have g10 : υ 10 = σ 10 := (b1.1 10 (by omega) (by omega) (by omega) (by omega)).trans f10
        refine s_X2_settle_106 g _ _ _ _ ⟨fun q => absurd (by rw [g4, h4] at q; exact q) (nI_ge hi (by omega)), fun _ => l_settleP (σ := υ) hA (by omega) (fun p hp => by rw [b3, a2 p hp, e3]) (by rw [g10]) c _ (fun ω c1 c2 c3 c4 c5 => ?_)⟩
        rw [nI_1]
        refine ih ω ⟨⟨b1.tr c1, c2.trans b2, c3.trans b3⟩, fun s hs => ?_, fun p hp => ?_⟩
        · rw [c4 s hs, b4 s hs, g10, g6]; rfl
        · rw [c5 p hp, b5 p hp, g10, g5, g6]; rfl
    · rw [a4 s hs, f10, f6]
      exact (sm_z (fun d _ => if_pos c)).symm
    · rw [a5 p hp, f10, f5, f6]
      refine (sm_z (fun d _ => sm_z (fun s _ => ?_))).symm
      cases A s with
      | none => rfl
      | some q =>
        show (if _ then gof A (σ 10) (σ 6) d s else 0) = 0
        rw [show gof A (σ 10) (σ 6) d s = 0 from if_pos c]
        split <;> rfl
  · intro i τ hi ⟨a1, a2, a3, a4, a5⟩ ih
    have f7 : τ 7 = σ 7 := a1.1 7 (by omega) (by omega) (by omega) (by omega)
    have f10 : τ 10 = σ 10 := a1.1 10 (by omega) (by omega) (by omega) (by omega)
    have f117 : τ 117 = σ 117 := a1.1 117 (by omega) (by omega) (by omega) (by omega)
    refine s_X2_settle_34 g _ _ _ _ ⟨fun q => absurd (by rw [f7, h7] at q; exact q) (nI_ge hi (by omega)), fun _ => ⟨inN (by omega) (by omega), ?_⟩⟩
    rw [nI_clamp (by omega), f117, f10, hp i (by omega), nI_1]
    cases ha : A i with
    | none =>
      refine ⟨fun _ => ?_, fun c => absurd rfl c⟩
      have ih := ih τ ⟨a1, fun p hp => by rw [Bf, ha, if_neg (fun q => by cases q)]; exact a2 p hp, by rw [a3]; exact (sm_0 (F := fun s => if (A s).isSome then (1 : Int32) else 0) (by show (if (A i).isSome then (1 : Int32) else 0) = 0; rw [ha]; rfl)).symm, a4, a5⟩
      rw [sm_0 (by rw [ha]; rfl)] at ih
      exact ih
    | some q =>
      have hq := hA.2.1 i q ha
      have e : opN (some q) = nI q := rfl
      rw [e, nI_clamp (by omega)]
      refine ⟨fun c => absurd c (nI_neNONE (by omega)), fun _ => ⟨inN hq (by omega), ?_⟩⟩
      have e3 : sm (i + 1) (fun s => if (A s).isSome then σ 10 s else 0) = sm i (fun s => if (A s).isSome then σ 10 s else 0) + σ 10 i := by
        show _ + (if (A i).isSome then σ 10 i else 0) = _
        rw [ha]; rfl
      have ih := ih (su (su τ 118 (upd (τ 118) q (nI i))) 116 (upd (τ 116) 2 (τ 116 2 + 1))) ⟨⟨fun k b1 b2 b3 b4 => by rw [su_ne b1, su_ne b2]; exact a1.1 k b1 b2 b3 b4, a1.2⟩, fun p hp => ?_, ?_, a4, a5⟩
      · rw [e3] at ih
        exact ih
      · show upd (τ 118) q (nI i) p = _
        by_cases z : p = q
        · subst z; rw [upd_same, Bf, ha, if_pos rfl]; rfl
        · rw [upd_ne z, Bf, ha, if_neg (fun y => z (by cases y; rfl))]; exact a2 p hp
      · show τ 116 2 + 1 = cnt A i + (if (A i).isSome then 1 else 0)
        rw [a3, ha]; rfl
end CROWDX
