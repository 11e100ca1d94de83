/-! THE CROWD: look, sendOut, and what is asked of it -/
section CROWDY
variable {g : vt_GT} {σ : vt_Sg} {p1 p2 p3 p4 p5 : Int32} {A : Nat → Option Nat} {nd ns t nm : Nat} {m1 m2 m3 n : Nat → Int32} {ms mt : Nat → Nat} {mp : Nat → Option Nat}
/-- the same but for the crowd's cells, placeOf with them -/
def Fl (σ τ : vt_Sg) : Prop := ∀ k, k ≠ 116 → k ≠ 117 → k ≠ 118 → k ≠ 119 → k ≠ 120 → τ k = σ k
theorem plc_stop {m s i : Nat} : ∀ k, i ≤ k → (∀ j, i ≤ j → j < k → m < mt j) → plc ms mt mp m s k = plc ms mt mp m s i
  | 0, h, _ => by rw [show i = 0 by omega]
  | k + 1, h, hj => by
    by_cases e : i = k + 1
    · rw [e]
    · rw [plc, if_neg (fun q => by have := hj k (by omega) (by omega); omega)]
      exact plc_stop k (by omega) (fun j a b => hj j a (by omega))
theorem srt {i : Nat} (h : ∀ k, k + 1 < nm → mt k ≤ mt (k + 1)) : ∀ j, i ≤ j → j < nm → mt i ≤ mt j
  | 0, a, _ => by rw [show i = 0 by omega]; exact Nat.le_refl _
  | j + 1, a, b => by
    by_cases e : i = j + 1
    · rw [e]; exact Nat.le_refl _
    · exact Nat.le_trans (srt h j (by omega) (by omega)) (h j b)
theorem c_X2_look (hm : A_mv t ns nm (σ 16) (σ 17) (σ 18) n ms mt mp) (h15 : σ 15 3 = nI nm) (hb : nm ≤ 200) (hns : ns ≤ 12) (h7 : σ 7 7 = nI ns) (hnd : nd ≤ 4) (h4 : σ 4 2 = nI nd) (ht : t ≤ 120) {m : Nat} (hmm : m ≤ 120) (Φ : vt_Sg → Prop) (h : ∀ τ, Fl σ τ → τ 116 1 = nI m → CR τ (fun s => plc ms mt mp m s nm) nd → Φ τ) : vt_Mv g 2 D_X2_look [.ref (g.2.1 116), .int (nI m)] σ Φ := by
  refine mV ok_X2_look.1 rfl rfl rfl (s_X2_look_0 g σ _ (nI m) ?_)
  generalize hσ1 : su σ 116 (upd (σ 116) 1 (nI m)) = σ1
  have e0 : ∀ k, k ≠ 116 → σ1 k = σ k := fun k hk => by rw [← hσ1]; exact su_ne hk
  have e1 : σ1 116 1 = nI m := by rw [← hσ1]; rfl
  have fin : ∀ f : Nat → Int32, (∀ s, s < 12 → f s = opN (plc ms mt mp m s nm)) → vt_Mv g 1 D_X2_settle [.ref (g.2.1 116)] (su σ1 117 f) (fun σ2 => (none : Option Value) = none ∧ Φ σ2) := by
    intro f hf
    refine c_X2_settle (σ := su σ1 117 f) (A := fun s => plc ms mt mp m s nm) (nd := nd) (ns := ns) hf (hm.inj hns m) (hm.lt m) hns ?_ hnd ?_ _ (fun τ h1 h2 => ⟨rfl, h τ ?_ ?_ h2⟩)
    · show σ1 7 7 = _
      rw [e0 7 (by omega)]; exact h7
    · show σ1 4 2 = _
      rw [e0 4 (by omega)]; exact h4
    · intro k a1 a2 a3 a4 a5
      rw [h1.1 k a1 a3 a4 a5, su_ne a2, e0 k a1]
    · rw [h1.2]; exact e1
  refine c_fill (σ := σ1) (ka := 117) (na := 12) ar_117 (by omega) _ (fun f hf _ => ?_)
  refine lpS nm (fun i f => TT g (vt_R 2) 0 0 D_X2_look none 24 [some (.ref (g.2.1 116)), some (.int (nI m)), some (.ref (g.2.1 15)), some (.int (nI i))] [] (su σ1 117 f) _)
    (fun i f => ∀ s, s < 12 → f s = opN (plc ms mt mp m s i)) ?_ ?_ 0 f (by omega) hf
  · intro f hf
    exact s_X2_look_24 g _ _ _ _ ⟨fun _ => fin f hf, fun c => absurd (by show σ1 15 3 ≤ _; rw [e0 15 (by omega), h15]; exact nI_le (Nat.le_refl _) (by omega)) c⟩
  · intro i f hi hf ih
    obtain ⟨a1, a2, a3, a4, a5, a6, a7⟩ := hm.1 i hi
    have f16 : su σ1 117 f 16 = σ 16 := by rw [su_ne (by omega)]; exact e0 16 (by omega)
    have f17 : su σ1 117 f 17 = σ 17 := by rw [su_ne (by omega)]; exact e0 17 (by omega)
    have f18 : su σ1 117 f 18 = σ 18 := by rw [su_ne (by omega)]; exact e0 18 (by omega)
    refine s_X2_look_24 g _ _ _ _ ⟨fun c => absurd (by have c : σ1 15 3 ≤ nI i := c; rw [e0 15 (by omega), h15] at c; exact c) (nI_ge hi (by omega)), fun _ => ⟨inN (by omega) (by omega), ?_⟩⟩
    rw [nI_clamp (by omega), f16, f17, f18, a1, a2, a3, nI_1, su_su, su_same, nI_clamp (by omega)]
    refine ⟨fun c => fin f (fun s hs => ?_), fun c => ⟨inN (by omega) (by omega), ih _ (fun s hs => ?_)⟩⟩
    · have c := (nI_ltI (by omega) (by omega)).mp c
      have e := plc_stop (ms := ms) (mt := mt) (mp := mp) (m := m) (s := s) (i := i) nm (by omega) (fun j b1 b2 => by have := srt hm.2.1 j b1 b2; omega)
      rw [hf s hs, e]
    · by_cases e : s = ms i
      · subst e
        rw [upd_same, plc, if_pos ⟨rfl, Nat.le_of_not_lt (fun q => c (nI_lt q (by omega)))⟩]
      · rw [upd_ne e, plc, if_neg (fun q => e q.1.symm)]; exact hf s hs
/-- all but shop s -/
def wo (A : Nat → Option Nat) (s : Nat) : Nat → Option Nat := fun o => if o = s then none else A o
theorem wo_inj (hA : inj12 A) (s : Nat) : inj12 (wo A s) := by
  have k : ∀ a p, wo A s a = some p → A a = some p := fun a p h => by
    unfold wo at h
    by_cases e : a = s
    · rw [if_pos e] at h; cases h
    · rw [if_neg e] at h; exact h
  refine ⟨fun a b p h1 h2 => hA.1 a b p (k a p h1) (k b p h2), fun a p h1 => hA.2.1 a p (k a p h1), fun a h1 => ?_⟩
  unfold wo
  by_cases e : a = s
  · rw [if_pos e]
  · rw [if_neg e]; exact hA.2.2 a h1
theorem c_X2_sendOut {s : Nat} (hs : s < 12) (hp : ∀ s, s < 12 → σ 117 s = opN (A s)) (hA : inj12 A) (hlt : ∀ s, ns ≤ s → A s = none) (hns : ns ≤ 12) (h7 : σ 7 7 = nI ns) (hnd : nd ≤ 4) (h4 : σ 4 2 = nI nd) (Φ : vt_Sg → Prop) (h : ∀ τ, Fl σ τ → τ 116 1 = σ 116 1 → CR τ (wo A s) nd → Φ τ) : vt_Mv g 2 D_X2_sendOut [.ref (g.2.1 116), .int (nI s)] σ Φ := by
  refine mV ok_X2_sendOut.1 rfl rfl rfl (s_X2_sendOut_0 g σ _ (nI s) ⟨inN hs (by omega), ?_⟩)
  rw [nI_clamp (by omega)]
  refine c_X2_settle (σ := su σ 117 (upd (σ 117) s (-1000000005))) (A := wo A s) (nd := nd) (ns := ns) (fun o ho => ?_) (wo_inj hA s) (fun o ho => ?_) hns h7 hnd h4 _ (fun τ h1 h2 => ⟨rfl, h τ (fun k a1 a2 a3 a4 a5 => ?_) h1.2 h2⟩)
  · show upd (σ 117) s (-1000000005) o = _
    by_cases e : o = s
    · subst e; rw [upd_same, wo, if_pos rfl]; rfl
    · rw [upd_ne e, wo, if_neg e]; exact hp o ho
  · unfold wo
    split
    · rfl
    · exact hlt o ho
  · rw [h1.1 k a1 a3 a4 a5, su_ne a2]
def apt (a b : Int32) : Int32 := if 0 ≤ a - b then a - b else 0 - (a - b)
/-- shop o counts for shop s -/
def oth (A : Nat → Option Nat) (ki so ne : Nat → Int32) (w : Int32) (s o : Nat) : Bool := decide (¬ o = s) && ((A o).isSome && (if w = 4 then true else if w = 5 then decide (ki o = 1) else if w = 6 then decide (apt (opM (A o)) (opM (A s)) = 1) else (decide (so o = so s) && decide (¬ ne s < apt (opM (A o)) (opM (A s))))))
def othN (A : Nat → Option Nat) (ki so ne : Nat → Int32) (w : Int32) (s : Nat) : Int32 := sm 12 (fun o => if oth A ki so ne w s o then 1 else 0)
theorem c_X12_others {k so pu lu ne sp a : Nat → Int32} (hst : ∀ s, s < 12 → σ 175 s = opM (A s)) (hA : inj12 A) (hlt : ∀ s, ns ≤ s → A s = none) (hns : ns ≤ 12) (hS : A_shops ns k so pu lu ne sp a (σ 169)) {s : Nat} (hs : s < ns) {w : Int32} (Φ : Int32 → vt_Sg → Prop) (h : Φ (if w = 7 then (if othN A k so ne w s ≤ 1 then othN A k so ne w s else 1) else othN A k so ne w s) σ) : vt_Mi g 1 D_X12_others [.ref (g.2.1 168), .int (nI s), .int w] σ Φ := by
  refine mI ok_X12_others.1 rfl rfl rfl (s_X12_others_0 g σ _ (nI s) w ?_)
  unfold othN at h
  generalize hF : (fun o => if oth A k so ne w s o then (1 : Int32) else 0) = F at h
  refine lpD 12 (fun i => TT g (vt_R 1) 0 0 D_X12_others none 5 [some (.ref (g.2.1 168)), some (.int (nI s)), some (.int w), some (.int (sm i F)), some (.int (nI i)), none, none, none] [] σ _) ?_ ?_
  · refine s_X12_others_5 g σ _ _ _ _ _ ⟨fun _ => ⟨fun c => ⟨_, rfl, ?_⟩, fun c => ⟨fun c2 => ⟨_, rfl, ?_⟩, fun c2 => ⟨_, rfl, ?_⟩⟩⟩, fun c => absurd (show (12 : Int32) ≤ 12 from by decide) c⟩
    · rw [if_neg c] at h; exact h
    · rw [if_pos c, if_pos c2] at h; exact h
    · rw [if_pos c, if_neg c2] at h; exact h
  · intro i hi ih
    have fi : F i = if oth A k so ne w s i then (1 : Int32) else 0 := by rw [← hF]
    have up : oth A k so ne w s i = true → TT g (vt_R 1) 0 0 D_X12_others none 5 [some (.ref (g.2.1 168)), some (.int (nI s)), some (.int w), some (.int (sm i F + 1)), some (.int (nI i + 1)), none, none, none] [] σ (fun v σ' => ∃ r, v = some (Value.int r) ∧ Φ r σ') := by
      intro q
      have e2 : sm (i + 1) F = sm i F + 1 := by
        show sm i F + F i = _
        rw [fi, if_pos q]
      rw [e2] at ih
      rw [nI_1]; exact ih
    have no : ¬ oth A k so ne w s i = true → TT g (vt_R 1) 0 0 D_X12_others none 5 [some (.ref (g.2.1 168)), some (.int (nI s)), some (.int w), some (.int (sm i F)), some (.int (nI i + 1)), none, none, none] [] σ (fun v σ' => ∃ r, v = some (Value.int r) ∧ Φ r σ') := by
      intro q
      rw [sm_0 (by rw [fi, if_neg q])] at ih
      rw [nI_1]; exact ih
    refine s_X12_others_5 g σ _ _ _ _ _ ⟨fun c => absurd c (nI_ge (b := 12) hi (by omega)), fun _ => ⟨fun c => no ?_, fun c => ⟨inN hi (by omega), ?_⟩⟩⟩
    · have c := nI_inj c (by omega) (by omega)
      intro q
      unfold oth at q
      rw [Bool.and_eq_true, decide_eq_true_eq] at q
      exact q.1 c
    have c : ¬ i = s := fun q => c (congrArg nI q)
    have e0 : (30 : Int32) + 8 * nI i + 0 = nI (30 + 8 * i + 0) := shop_ix (f := 0)
    have e1 : (30 : Int32) + 8 * nI i + 1 = nI (30 + 8 * i + 1) := shop_ix (f := 1)
    have e2 : (30 : Int32) + 8 * nI s + 1 = nI (30 + 8 * s + 1) := shop_ix (f := 1)
    have e5 : (30 : Int32) + 8 * nI s + 5 = nI (30 + 8 * s + 5) := shop_ix (f := 5)
    rw [e0, e1, e2, e5, nI_clamp (n := i) (by omega), nI_clamp (n := s) (by omega), nI_clamp (n := 30 + 8 * i + 0) (by omega), nI_clamp (n := 30 + 8 * i + 1) (by omega), nI_clamp (n := 30 + 8 * s + 1) (by omega), nI_clamp (n := 30 + 8 * s + 5) (by omega), hst i hi, hst s (by omega), Int32.add_zero]
    cases ha : A i with
    | none =>
      refine ⟨fun q => absurd q (by decide), fun _ => no ?_⟩
      intro q
      unfold oth at q
      rw [ha, Bool.and_eq_true, Bool.and_eq_true] at q
      cases q.2.1
    | some q =>
      have hns : i < ns := Nat.lt_of_not_le (fun z => by rw [hlt i z] at ha; cases ha)
      have v0 : σ 169 (30 + 8 * i + 0) = k i := (hS i hns).1
      have v1 : σ 169 (30 + 8 * i + 1) = so i := by rw [show 30 + 8 * i + 1 = 31 + 8 * i by omega]; exact (hS i hns).2.1
      have v2 : σ 169 (30 + 8 * s + 1) = so s := by rw [show 30 + 8 * s + 1 = 31 + 8 * s by omega]; exact (hS s hs).2.1
      have v5 : σ 169 (30 + 8 * s + 5) = ne s := by rw [show 30 + 8 * s + 5 = 35 + 8 * s by omega]; exact (hS s hs).2.2.2.2.2.1
      rw [v0, v1, v2, v5, ← ha]
      have eo : oth A k so ne w s i = (if w = 4 then true else if w = 5 then decide (k i = 1) else if w = 6 then decide (apt (opM (A i)) (opM (A s)) = 1) else (decide (so i = so s) && decide (¬ ne s < apt (opM (A i)) (opM (A s))))) := by
        unfold oth
        rw [ha, decide_eq_true c]
        rfl
      rw [eo] at up no
      clear eo ih fi hF h
      have I1 := inN (j := s) (n := 12) (by omega) (by omega)
      have I2 := inN (j := 30 + 8 * i + 1) (n := 2220) (by omega) (by omega)
      have I3 := inN (j := 30 + 8 * s + 1) (n := 2220) (by omega) (by omega)
      have I4 := inN (j := 30 + 8 * s + 5) (n := 2220) (by omega) (by omega)
      have I5 := inN (j := 30 + 8 * i + 0) (n := 2220) (by omega) (by omega)
      have ea : (if 0 ≤ opM (A i) - opM (A s) then opM (A i) - opM (A s) else 0 - (opM (A i) - opM (A s))) = apt (opM (A i)) (opM (A s)) := rfl
      rw [ea]
      generalize apt (opM (A i)) (opM (A s)) = ap at up no
      refine ⟨fun _ => ⟨I1, I2, I3, fun d1 => ⟨fun d4 => up ?_, fun d4 => ⟨fun d5 => ⟨fun d6 => no ?_, fun d6 => ⟨fun d7 => no ?_, fun d7 => up ?_⟩⟩, fun d5 => ⟨I5, fun d6 => no ?_, fun d6 => up ?_⟩⟩⟩, fun d1 => ⟨I4, fun d2 => ⟨fun d4 => up ?_, fun d4 => ⟨fun d5 => ⟨fun d6 => no ?_, fun d6 => ⟨fun d7 => no ?_, fun d7 => up ?_⟩⟩, fun d5 => ⟨I5, fun d6 => no ?_, fun d6 => up ?_⟩⟩⟩, fun d2 => ⟨fun d4 => up ?_, fun d4 => ⟨fun d5 => ⟨fun d6 => up ?_, fun d6 => ⟨fun d7 => no ?_, fun d7 => up ?_⟩⟩, fun d5 => ⟨I5, fun d6 => no ?_, fun d6 => up ?_⟩⟩⟩⟩⟩, fun z => absurd (by rw [ha]; exact nI_pos' (by have := hA.2.1 i q ha; omega)) z⟩
      all_goals clear up no
      all_goals simp_all
end CROWDY
