/-! THE CROWD: what is asked of it -/
section CROWDZ
variable {g : vt_GT} {σ : vt_Sg} {p1 p2 p3 p4 p5 : Int32} {A : Nat → Option Nat} {nd ns : Nat} {ki so ne : Nat → Int32}
theorem Inv.fr {σ τ : vt_Sg} (h : Inv σ) (hf : ∀ k, (k < 108 ∨ k = 110 ∨ (113 ≤ k ∧ k < 116) ∨ (167 ≤ k ∧ k < 175)) → τ k = σ k) : Inv τ := by
  obtain ⟨h1, h2, h3, h4, h5⟩ := h
  refine ⟨by rw [hf 169 (by omega)]; exact h1.cg (fun k hk => hf _ (by omega)), ?_, ?_, ?_, ?_⟩
  · rw [hf 0 (by omega), hf 168 (by omega), hf 170 (by omega)]
    exact h2.cg (fun k hk => hf _ (by omega))
  · rw [hf 107 (by omega), hf 168 (by omega), hf 110 (by omega), hf 171 (by omega)]; exact h3
  · rw [hf 0 (by omega), hf 168 (by omega), hf 167 (by omega), hf 172 (by omega)]; exact h4
  · rw [hf 115 (by omega), hf 173 (by omega), hf 113 (by omega), hf 114 (by omega), hf 174 (by omega)]; exact h5
theorem c_X2_foretold (hC : CR σ A nd) (hA : inj12 A) {s q : Nat} (hs : s < 12) (ha : A s = some q) (Φ : Int32 → vt_Sg → Prop) (h : Φ ((cmr A (σ 10) (σ 6) nd s + pst A (σ 10) (σ 5) (σ 6) nd (nI q) * σ 11 s / 1000) * σ 13 s) σ) : vt_Mi g 0 D_X2_foretold [.ref (g.2.1 116), .int (nI s)] σ Φ := by
  obtain ⟨c1, c2, c3, c4, c5⟩ := hC
  have hq := hA.2.1 s q ha
  refine mI ok_X2_foretold.1 rfl rfl rfl (s_X2_foretold_0 g σ _ (nI s) ⟨inN hs (by omega), ?_⟩)
  have e : opN (some q) = nI q := rfl
  rw [nI_clamp (by omega), c1 s hs, ha, e, nI_clamp (by omega), c4 s hs, c5 q hq]
  exact ⟨fun _ => ⟨inN hq (by omega), _, rfl, h⟩, fun c => absurd c (nI_neNONE (by omega))⟩
/-- a count of what holds -/
theorem sm_ind (b : Nat → Bool) : ∀ n, ∃ c : Nat, c ≤ n ∧ sm n (fun i => if b i then 1 else 0) = nI c ∧ (c = 0 ↔ ∀ i, i < n → b i = false)
  | 0 => ⟨0, Nat.le_refl _, rfl, ⟨fun _ i hi => absurd hi (by omega), fun _ => rfl⟩⟩
  | n + 1 => by
    obtain ⟨c, h1, h2, h3⟩ := sm_ind b n
    cases e : b n with
    | false =>
      refine ⟨c, by omega, ?_, ⟨fun z i hi => ?_, fun z => h3.mpr (fun i hi => z i (by omega))⟩⟩
      · rw [sm_0 (by rw [e]; rfl)]; exact h2
      · by_cases q : i = n
        · subst q; exact e
        · exact h3.mp z i (by omega)
    | true =>
      refine ⟨c + 1, by omega, ?_, ⟨fun z => absurd z (by omega), fun z => absurd (z n (by omega)) (by rw [e]; decide)⟩⟩
      show sm n (fun i => if b i then 1 else 0) + (if b n then 1 else 0) = _
      rw [h2, e]
      exact nI_1 c
theorem oth_none {w : Int32} {s o : Nat} (h : A o = none) : oth A ki so ne w s o = false := by
  unfold oth
  rw [h]
  cases decide (¬ o = s) <;> rfl
theorem oth4 {s q : Nat} (hs : s < 12) (ha : A s = some q) : cnt A 12 - 1 = othN A ki so ne 4 s := by
  have e : cnt A 12 = othN A ki so ne 4 s + 1 := by
    have e1 : cnt A 12 = sm 12 (fun o => (if oth A ki so ne 4 s o then 1 else 0) + (if o = s then 1 else 0)) := by
      refine sm_congr (fun o ho => ?_)
      by_cases e : o = s
      · subst e
        have : oth A ki so ne 4 o o = false := by unfold oth; rw [decide_eq_false (fun h => h rfl)]; rfl
        rw [this, ha, if_pos rfl]; exact (by decide : (1 : Int32) = 0 + 1)
      · rw [if_neg e, Int32.add_zero]
        have : oth A ki so ne 4 s o = (A o).isSome := by
          unfold oth
          rw [decide_eq_true e, if_pos rfl]
          cases A o <;> rfl
        rw [this]
    have e2 : sm 12 (fun o => if o = s then (1 : Int32) else 0) = 1 := (sm_one hs (fun i _ hne => if_neg hne)).trans (if_pos rfl)
    rw [e1, sm_add, e2]
    unfold othN
    rfl
  rw [e]
  generalize othN A ki so ne 4 s = x
  exact Int32.add_sub_cancel ..
theorem c_X2_anchors (hC : CR σ A nd) (hlt : ∀ s, ns ≤ s → A s = none) (hns : ns ≤ 12) (h7 : σ 7 7 = nI ns) {s : Nat} (hs : s < 12) (hA : inj12 A) (Φ : Int32 → vt_Sg → Prop) (h : Φ (othN A (σ 8) (σ 9) (σ 12) 5 s) σ) : vt_Mi g 0 D_X2_anchors [.ref (g.2.1 116), .int (nI s)] σ Φ := by
  obtain ⟨c1, c2, c3, c4, c5⟩ := hC
  refine mI ok_X2_anchors.1 rfl rfl rfl (s_X2_anchors_0 g σ _ (nI s) ?_)
  unfold othN at h
  rw [sm_more hns (fun i hi _ => by rw [oth_none (hlt i hi)]; rfl)] at h
  generalize hF : (fun o => if oth A (σ 8) (σ 9) (σ 12) 5 s o then (1 : Int32) else 0) = F at h
  refine lpD ns (fun i => TT g (vt_R 0) 0 0 D_X2_anchors none 4 [some (.ref (g.2.1 116)), some (.int (nI s)), some (.int (sm i F)), some (.int (nI i)), none] [] σ _) ?_ ?_
  · exact s_X2_anchors_4 g σ _ _ _ _ ⟨fun _ => ⟨_, rfl, h⟩, fun c => absurd (by rw [h7]; exact nI_le (Nat.le_refl _) (by omega)) c⟩
  · intro i hi ih
    have fi : F i = if oth A (σ 8) (σ 9) (σ 12) 5 s i then (1 : Int32) else 0 := by rw [← hF]
    have up : oth A (σ 8) (σ 9) (σ 12) 5 s i = true → TT g (vt_R 0) 0 0 D_X2_anchors none 4 [some (.ref (g.2.1 116)), some (.int (nI s)), some (.int (sm i F + 1)), some (.int (nI i + 1)), none] [] σ (fun v σ' => ∃ r, v = some (Value.int r) ∧ Φ r σ') := by
      intro q
      have e2 : sm (i + 1) F = sm i F + 1 := by
        show sm i F + F i = _
        rw [fi, if_pos q]
      rw [e2] at ih
      rw [nI_1]; exact ih
    have no : ¬ oth A (σ 8) (σ 9) (σ 12) 5 s i = true → TT g (vt_R 0) 0 0 D_X2_anchors none 4 [some (.ref (g.2.1 116)), some (.int (nI s)), some (.int (sm i F)), some (.int (nI i + 1)), none] [] σ (fun v σ' => ∃ r, v = some (Value.int r) ∧ Φ r σ') := by
      intro q
      rw [sm_0 (by rw [fi, if_neg q])] at ih
      rw [nI_1]; exact ih
    refine s_X2_anchors_4 g σ _ _ _ _ ⟨fun c => absurd (by rw [h7] at c; exact c) (nI_ge hi (by omega)), fun _ => ⟨fun c => no ?_, fun c => ⟨inN (by omega) (by omega), ?_⟩⟩⟩
    · have c := nI_inj c (by omega) (by omega)
      intro q
      unfold oth at q
      rw [Bool.and_eq_true, decide_eq_true_eq] at q
      exact q.1 c
    · have c : ¬ i = s := fun q => c (congrArg nI q)
      rw [nI_clamp (by omega), c1 i (by omega)]
      cases ha : A i with
      | none => exact ⟨fun _ => no (by rw [oth_none ha]; decide), fun c => absurd rfl c⟩
      | some q =>
        have hq := hA.2.1 i q ha
        have eo : oth A (σ 8) (σ 9) (σ 12) 5 s i = decide (σ 8 i = 1) := by
          unfold oth
          rw [ha, decide_eq_true c]
          rfl
        rw [eo] at up no
        exact ⟨fun z => absurd z (nI_neNONE (by omega)), fun _ => ⟨fun z => no (by rw [decide_eq_true_eq]; exact z), fun z => up (by rw [decide_eq_true_eq]; exact z)⟩⟩
theorem apt_1 : ∀ q, q < 12 → ∀ p, p < 12 → (apt (nI q) (nI p) = 1 ↔ (q + 1 = p ∨ q = p + 1)) := by decide +kernel
def ind (b : Bool) : Int32 := if b then 1 else 0
/-- how many of the two places beside p are taken -/
def bsd (A : Nat → Option Nat) (p : Nat) : Int32 := (if 0 < p then ind (Bf A 12 (p - 1)).isSome else 0) + (if p < 11 then ind (Bf A 12 (p + 1)).isSome else 0)
theorem oth6 (hA : inj12 A) {s p : Nat} (ha : A s = some p) : bsd A p = othN A ki so ne 6 s := by
  have hp := hA.2.1 s p ha
  have e1 : othN A ki so ne 6 s = sm 12 (fun o => match A o with | none => 0 | some q => if q + 1 = p ∨ q = p + 1 then 1 else 0) := by
    refine sm_congr (fun o ho => ?_)
    cases hb : A o with
    | none => rw [oth_none hb]; rfl
    | some q =>
      have hq := hA.2.1 o q hb
      have hi := apt_1 q hq p hp
      show (if oth A ki so ne 6 s o then 1 else 0) = if q + 1 = p ∨ q = p + 1 then (1 : Int32) else 0
      have eo : oth A ki so ne 6 s o = (decide (¬ o = s) && decide (apt (nI q) (nI p) = 1)) := by
        unfold oth
        rw [hb, ha]
        rfl
      rw [eo]
      by_cases c : q + 1 = p ∨ q = p + 1
      · have : ¬ o = s := fun z => by subst z; rw [ha] at hb; cases hb; omega
        rw [if_pos c, decide_eq_true this, decide_eq_true (hi.mpr c)]; rfl
      · rw [if_neg c, decide_eq_false (fun z => c (hi.mp z)), Bool.and_false]; rfl
  refine Eq.trans ?_ ((sm_places hA (fun _ q => if q + 1 = p ∨ q = p + 1 then (1 : Int32) else 0)).trans e1.symm)
  have e2 : sm 12 (fun q => match Bf A 12 q with | none => 0 | some _ => if q + 1 = p ∨ q = p + 1 then (1 : Int32) else 0) = sm 12 (fun q => (if q + 1 = p then ind (Bf A 12 q).isSome else 0) + (if q = p + 1 then ind (Bf A 12 q).isSome else 0)) := by
    refine sm_congr (fun q hq => ?_)
    cases Bf A 12 q with
    | none =>
      show (0 : Int32) = (if q + 1 = p then 0 else 0) + (if q = p + 1 then 0 else 0)
      rw [ite_self, ite_self]; rfl
    | some o =>
      show (if q + 1 = p ∨ q = p + 1 then (1 : Int32) else 0) = (if q + 1 = p then 1 else 0) + (if q = p + 1 then 1 else 0)
      by_cases a : q + 1 = p
      · rw [if_pos (Or.inl a), if_pos a, if_neg (by omega)]; rfl
      · by_cases b : q = p + 1
        · rw [if_pos (Or.inr b), if_neg a, if_pos b]; rfl
        · rw [if_neg (by omega), if_neg a, if_neg b]; rfl
  refine Eq.trans ?_ e2.symm
  rw [sm_add]
  unfold bsd
  congr 1
  · by_cases c : 0 < p
    · rw [if_pos c, sm_one (k := p - 1) (by omega) (fun i _ hne => if_neg (by omega)), if_pos (by omega)]
    · rw [if_neg c]; exact (sm_z (fun i _ => if_neg (by omega))).symm
  · by_cases c : p < 11
    · rw [if_pos c, sm_one (k := p + 1) (by omega) (fun i _ hne => if_neg (by omega)), if_pos rfl]
    · rw [if_neg c]; exact (sm_z (fun i hi => if_neg (by omega))).symm
theorem opN_ind {o : Option Nat} (h : ∀ w, o = some w → w < 12) : (opN o = -1000000005 → ind o.isSome = 0) ∧ (¬ opN o = -1000000005 → ind o.isSome = 1) := by
  cases o with
  | none => exact ⟨fun _ => rfl, fun c => absurd rfl c⟩
  | some w => exact ⟨fun c => absurd c (nI_neNONE (by have := h w rfl; omega)), fun _ => rfl⟩
theorem c_X2_beside (hC : CR σ A nd) {p : Nat} (hp : p < 12) (Φ : Int32 → vt_Sg → Prop) (h : Φ (bsd A p) σ) : vt_Mi g 0 D_X2_beside [.ref (g.2.1 116), .int (nI p)] σ Φ := by
  obtain ⟨c1, c2, c3, c4, c5⟩ := hC
  refine mI ok_X2_beside.1 rfl rfl rfl (s_X2_beside_0 g σ _ (nI p) ?_)
  unfold bsd at h
  have lo : nI p ≤ 0 ↔ p ≤ 0 := nI_leI (b := 0) (by omega) (by omega)
  have hi : 11 ≤ nI p ↔ 11 ≤ p := nI_leI (a := 11) (by omega) (by omega)
  rw [lo, hi]
  have B := fun q => opN_ind (o := Bf A 12 q) (fun w hw => (Bf_some hw).1)
  have R : ¬ 11 ≤ p → vp_in (nI p + 1) 12 ∧ σ 118 (nI p + 1).toNatClampNeg = opN (Bf A 12 (p + 1)) := by
    intro c
    rw [nI_1, nI_clamp (by omega)]
    exact ⟨inN (by omega) (by omega), c2 _ (by omega)⟩
  have L : ¬ p ≤ 0 → vp_in (nI p - 1) 12 ∧ σ 118 (nI p - 1).toNatClampNeg = opN (Bf A 12 (p - 1)) := by
    intro c
    have e : nI p - 1 = nI (p - 1) := pk_sub (b := 1) (by omega)
    rw [e, nI_clamp (by omega)]
    exact ⟨inN (by omega) (by omega), c2 _ (by omega)⟩
  refine ⟨fun a => ⟨fun b => ⟨_, rfl, ?_⟩, fun b => ⟨(R b).1, fun c => ⟨_, rfl, ?_⟩, fun c => ⟨_, rfl, ?_⟩⟩⟩, fun a => ⟨(L a).1, fun d => ⟨fun b => ⟨_, rfl, ?_⟩, fun b => ⟨(R b).1, fun c => ⟨_, rfl, ?_⟩, fun c => ⟨_, rfl, ?_⟩⟩⟩, fun d => ⟨fun b => ⟨_, rfl, ?_⟩, fun b => ⟨(R b).1, fun c => ⟨_, rfl, ?_⟩, fun c => ⟨_, rfl, ?_⟩⟩⟩⟩⟩
  · omega
  · rw [if_neg (by omega), if_pos (by omega), (B _).1 ((R b).2.symm.trans c)] at h; exact h
  · rw [if_neg (by omega), if_pos (by omega), (B _).2 (fun z => c ((R b).2.trans z))] at h; exact h
  · rw [if_pos (by omega), if_neg (by omega), (B _).1 ((L a).2.symm.trans d)] at h; exact h
  · rw [if_pos (by omega), if_pos (by omega), (B _).1 ((L a).2.symm.trans d), (B _).1 ((R b).2.symm.trans c)] at h; exact h
  · rw [if_pos (by omega), if_pos (by omega), (B _).1 ((L a).2.symm.trans d), (B _).2 (fun z => c ((R b).2.trans z))] at h; exact h
  · rw [if_pos (by omega), if_neg (by omega), (B _).2 (fun z => d ((L a).2.trans z))] at h; exact h
  · rw [if_pos (by omega), if_pos (by omega), (B _).2 (fun z => d ((L a).2.trans z)), (B _).1 ((R b).2.symm.trans c)] at h; exact h
  · rw [if_pos (by omega), if_pos (by omega), (B _).2 (fun z => d ((L a).2.trans z)), (B _).2 (fun z => c ((R b).2.trans z))] at h; exact h
theorem oth7_val {s : Nat} : (if othN A ki so ne 7 s ≤ 1 then othN A ki so ne 7 s else 1) = 0 ∧ (∀ o, o < 12 → oth A ki so ne 7 s o = false) ∨ (if othN A ki so ne 7 s ≤ 1 then othN A ki so ne 7 s else 1) = 1 ∧ ∃ o, o < 12 ∧ oth A ki so ne 7 s o = true := by
  obtain ⟨c, h1, h2, h3⟩ := sm_ind (oth A ki so ne 7 s) 12
  have e : othN A ki so ne 7 s = nI c := h2
  rw [e]
  by_cases z : c = 0
  · subst z
    exact Or.inl ⟨by decide, h3.mp rfl⟩
  · refine Or.inr ⟨?_, ?_⟩
    · by_cases q : c = 1
      · subst q; decide
      · exact if_neg (show ¬ nI c ≤ 1 from nI_ge (a := 1) (by omega) (by omega))
    · apply Classical.byContradiction
      intro q
      refine z (h3.mpr (fun i hi => ?_))
      cases w : oth A ki so ne 7 s i with
      | false => rfl
      | true => exact absurd ⟨i, hi, w⟩ q
theorem c_X2_rivalNear (hC : CR σ A nd) (hA : inj12 A) {s p : Nat} (hs : s < 12) (ha : A s = some p) (Φ : Int32 → vt_Sg → Prop) (h : Φ (if othN A (σ 8) (σ 9) (σ 12) 7 s ≤ 1 then othN A (σ 8) (σ 9) (σ 12) 7 s else 1) σ) : vt_Mi g 1 D_X2_rivalNear [.ref (g.2.1 116), .int (nI s)] σ Φ := by
  obtain ⟨c1, c2, c3, c4, c5⟩ := hC
  have hp := hA.2.1 s p ha
  have ep : σ 117 s = nI p := (c1 s hs).trans (by rw [ha]; rfl)
  refine mI ok_X2_rivalNear.1 rfl rfl rfl (s_X2_rivalNear_0 g σ _ (nI s) ⟨inN hs (by omega), ?_⟩)
  rw [nI_clamp (by omega), ep]
  have eo : ∀ o q, A o = some q → oth A (σ 8) (σ 9) (σ 12) 7 s o = (decide (¬ o = s) && (decide (σ 9 o = σ 9 s) && decide (¬ σ 12 s < apt (nI q) (nI p)))) := by
    intro o q e
    unfold oth
    rw [e, ha]
    rfl
  refine lpS 12 (fun i (_ : Unit) => TT g (vt_R 1) 0 0 D_X2_rivalNear none 9 [some (.ref (g.2.1 116)), some (.int (nI s)), some (.int (nI p)), some (.int (nI i)), none, none] [] σ _)
    (fun i _ => ∀ q, q < i → ∀ o, Bf A 12 q = some o → oth A (σ 8) (σ 9) (σ 12) 7 s o = false) ?_ ?_ 0 () (by omega) (fun q hq => absurd hq (by omega))
  · intro _ hn
    refine s_X2_rivalNear_9 g σ _ _ _ _ ⟨fun _ => ⟨_, rfl, ?_⟩, fun c => absurd (show (12 : Int32) ≤ 12 from by decide) c⟩
    rcases oth7_val (A := A) (ki := σ 8) (so := σ 9) (ne := σ 12) (s := s) with ⟨e, _⟩ | ⟨_, o, ho, e⟩
    · rw [e] at h; exact h
    · cases hb : A o with
      | none => rw [oth_none hb] at e; cases e
      | some q =>
        have := hn q (hA.2.1 o q hb) o (Bf_of hA ho hb)
        rw [this] at e; cases e
  · intro i _ hi hn ih
    have go : (∀ o, Bf A 12 i = some o → oth A (σ 8) (σ 9) (σ 12) 7 s o = false) → TT g (vt_R 1) 0 0 D_X2_rivalNear none 9 [some (.ref (g.2.1 116)), some (.int (nI s)), some (.int (nI p)), some (.int (nI i + 1)), none, none] [] σ (fun v σ' => ∃ r, v = some (Value.int r) ∧ Φ r σ') := by
      intro z
      rw [nI_1]
      refine ih () (fun q hq o hb => ?_)
      by_cases e : q = i
      · subst e; exact z o hb
      · exact hn q (by omega) o hb
    refine s_X2_rivalNear_9 g σ _ _ _ _ ⟨fun c => absurd c (nI_ge (b := 12) hi (by omega)), fun _ => ⟨inN hi (by omega), ?_⟩⟩
    rw [nI_clamp (by omega), c2 i hi]
    cases hb : Bf A 12 i with
    | none => exact ⟨fun _ => go (fun o z => by rw [hb] at z; cases z), fun c => absurd rfl c⟩
    | some o =>
      obtain ⟨ho, hbo⟩ := Bf_some hb
      have e := eo o i hbo
      have en : opN (some o) = nI o := rfl
      rw [en, nI_clamp (by omega), nI_clamp (by omega)]
      have F : oth A (σ 8) (σ 9) (σ 12) 7 s o = false → TT g (vt_R 1) 0 0 D_X2_rivalNear none 9 [some (.ref (g.2.1 116)), some (.int (nI s)), some (.int (nI p)), some (.int (nI i + 1)), none, none] [] σ (fun v σ' => ∃ r, v = some (Value.int r) ∧ Φ r σ') := fun z => go (fun o' y => by rw [hb] at y; cases y; exact z)
      refine ⟨fun c => absurd c (nI_neNONE (by omega)), fun _ => ⟨fun c => F ?_, fun c => ⟨inN ho (by omega), inN hs (by omega), fun d => F ?_, fun d => ⟨fun f => F ?_, fun f => ⟨_, rfl, ?_⟩⟩⟩⟩⟩
      · rw [e, decide_eq_false (fun z => z (nI_inj c (by omega) (by omega)))]; rfl
      · rw [e, decide_eq_false d, Bool.false_and, Bool.and_false]
      · have t3 : decide (¬ σ 12 s < apt (nI i) (nI p)) = false := decide_eq_false (fun z => z f)
        rw [e, t3, Bool.and_false, Bool.and_false]
      · have tr : oth A (σ 8) (σ 9) (σ 12) 7 s o = true := by
          have t1 : decide (¬ o = s) = true := decide_eq_true (fun z => c (congrArg nI z))
          have t2 : decide (σ 9 o = σ 9 s) = true := decide_eq_true d
          have t3 : decide (¬ σ 12 s < apt (nI i) (nI p)) = true := decide_eq_true f
          rw [e, t1, t2, t3]; rfl
        rcases oth7_val (A := A) (ki := σ 8) (so := σ 9) (ne := σ 12) (s := s) with ⟨_, e⟩ | ⟨e, _⟩
        · rw [e o ho] at tr; cases tr
        · rw [e] at h; exact h
end CROWDZ
