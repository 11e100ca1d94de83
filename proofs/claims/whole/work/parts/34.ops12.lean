/-! OPERATIONS: charge -/
section OPS12
variable {g : vt_GT} {σ : vt_Sg} {p1 p2 p3 p4 p5 : Int32} {A : Nat → Option Nat} {nd ns : Nat} {ki fe : Nat → Int32}
theorem i32_ss (x a b : Int32) : x - a - b = x - (a + b) := by
  rw [Int32.sub_eq_add_neg, Int32.sub_eq_add_neg, Int32.sub_eq_add_neg, Int32.neg_add, Int32.sub_eq_add_neg, Int32.add_assoc]
/-- by shops, by places -/
def bySh (A : Nat → Option Nat) (F : Nat → Nat → Int32) (s : Nat) : Int32 := match A s with
  | none => 0
  | some p => F s p
def byPl (A : Nat → Option Nat) (F : Nat → Nat → Int32) (p : Nat) : Int32 := match Bf A 12 p with
  | none => 0
  | some s => F s p
theorem by_eq (hA : inj12 A) (F : Nat → Nat → Int32) : sm 12 (byPl A F) = sm 12 (bySh A F) := sm_places hA F
def pay (ki : Nat → Int32) (v : Nat → Int32) (s p : Nat) : Int32 := if ki s = 3 then 0 else v p
theorem c_X2_chargedFeet (hC : CR σ A nd) {p : Nat} (hp : p < 12) (Φ : Int32 → vt_Sg → Prop) (h : Φ (byPl A (pay (σ 8) (σ 2)) p) σ) : vt_Mi g 0 D_X2_chargedFeet [.ref (g.2.1 116), .int (nI p)] σ Φ := by
  obtain ⟨c1, c2, c3, c4, c5⟩ := hC
  refine mI ok_X2_chargedFeet.1 rfl rfl rfl (s_X2_chargedFeet_0 g σ _ (nI p) ⟨inN hp (by omega), ?_⟩)
  rw [nI_clamp (by omega), c2 p hp]
  unfold byPl at h
  cases hb : Bf A 12 p with
  | none =>
    rw [hb] at h
    exact ⟨fun _ => ⟨_, rfl, h⟩, fun c => absurd rfl c⟩
  | some s =>
    rw [hb] at h
    have hs := (Bf_some hb).1
    have h : Φ (if σ 8 s = 3 then 0 else σ 2 p) σ := h
    have e : opN (some s) = nI s := rfl
    rw [e, nI_clamp (by omega)]
    refine ⟨fun c => absurd c (nI_neNONE (by omega)), fun _ => ⟨inN hs (by omega), fun z => ⟨_, rfl, ?_⟩, fun z => ⟨_, rfl, ?_⟩⟩⟩
    · rw [if_neg z] at h; exact h
    · rw [if_pos z] at h; exact h
theorem sm_pos {F : Nat → Int32} : ∀ n, (∀ i, i < n → ∃ v : Nat, v ≤ 999 ∧ F i = nI v) → ∃ c : Nat, c ≤ 999 * n ∧ sm n F = nI c ∧ (c = 0 → ∀ i, i < n → F i = 0)
  | 0, _ => ⟨0, Nat.le_refl _, rfl, fun _ i hi => absurd hi (by omega)⟩
  | n + 1, h => by
    obtain ⟨c, h1, h2, h3⟩ := sm_pos n (fun i hi => h i (by omega))
    obtain ⟨v, v1, v2⟩ := h n (by omega)
    refine ⟨c + v, by omega, ?_, fun z i hi => ?_⟩
    · show sm n F + F n = _
      rw [h2, v2, nI_add]
    · by_cases e : i = n
      · subst e
        rw [v2, show v = 0 by omega]; rfl
      · exact h3 (by omega) i (by omega)
theorem byPl_r (hfe : ∀ p, p < 12 → ∃ v, 10 ≤ v ∧ v ≤ 999 ∧ fe p = nI v) {p : Nat} (hp : p < 12) : ∃ v : Nat, v ≤ 999 ∧ byPl A (pay ki fe) p = nI v := by
  unfold byPl
  cases Bf A 12 p with
  | none => exact ⟨0, by omega, rfl⟩
  | some s =>
    obtain ⟨v, _, v2, v3⟩ := hfe p hp
    show ∃ w, w ≤ 999 ∧ (if ki s = 3 then 0 else fe p) = nI w
    by_cases z : ki s = 3
    · exact ⟨0, by omega, if_pos z⟩
    · exact ⟨v, v2, by rw [if_neg z, v3]⟩
/-- one place's share of the coins -/
theorem shr_eq {x all : Int32} {p : Nat} : x * byPl A (pay ki fe) p / all = byPl A (pay ki (fun p => x * fe p / all)) p := by
  unfold byPl
  cases Bf A 12 p with
  | none => show x * 0 / all = 0; rw [Int32.mul_zero, Int32.zero_div]
  | some s =>
    show x * (if ki s = 3 then 0 else fe p) / all = if ki s = 3 then 0 else x * fe p / all
    by_cases z : ki s = 3
    · rw [if_pos z, if_pos z, Int32.mul_zero, Int32.zero_div]
    · rw [if_neg z, if_neg z]
theorem ahd_eq (hfe : ∀ p, p < 12 → ∃ v, 10 ≤ v ∧ v ≤ 999 ∧ fe p = nI v) {own p : Nat} (hp : p < 12) : ind (decide (¬ byPl A (pay ki fe) p ≤ 0) && decide (p < own)) = byPl A (pay ki (fun p => ind (decide (p < own)))) p := by
  unfold byPl
  cases Bf A 12 p with
  | none => rfl
  | some s =>
    obtain ⟨v, v1, v2, v3⟩ := hfe p hp
    show ind (decide (¬ (if ki s = 3 then 0 else fe p) ≤ 0) && decide (p < own)) = if ki s = 3 then 0 else ind (decide (p < own))
    by_cases z : ki s = 3
    · rw [if_pos z, if_pos z]; rfl
    · rw [if_neg z, if_neg z, v3, decide_eq_true (nI_nle (by omega) (by omega)), Bool.true_and]
theorem op_charge (hI : Inv σ) : vt_Mi g 3 D_X11_charge [.ref (g.2.1 0), .int p1, .int p2, .int p3] σ (fun r σ1 => vt_Mi g 2 D_X12_charge [.ref (g.2.1 168), .int p1, .int p2, .int p3] σ1 (fun r' σ2 => r = r' ∧ Inv σ2)) := by
  obtain ⟨⟨t, nd, ns, nm, nl, lv, hN, hF, hR, hD, hS, hM, hL, hE, hV⟩, h2⟩ := id hI
  obtain ⟨⟨bt, bd, bs, bm, bl, bv⟩, ⟨xt, xv, xd, xs, xm, xl⟩, ⟨yt, yd, ys, ym, yl, yv⟩⟩ := id hN
  have xt : σ 1 9 = nI t := xt
  have xv : σ 1 8 = nI lv := xv
  have xd : σ 4 2 = nI nd := xd
  have xs : σ 7 7 = nI ns := xs
  have xm : σ 15 3 = nI nm := xm
  have xl : σ 19 5 = nI nl := xl
  have hD : A_doors nd (σ 5) (σ 6) (σ 169) := hD
  have hS : A_shops ns (σ 8) (σ 9) (σ 10) (σ 11) (σ 12) (σ 13) (σ 14) (σ 169) := hS
  obtain ⟨ms, mt, mp, hmv⟩ := id hM
  have hmv : A_mv t ns nm (σ 16) (σ 17) (σ 18) (σ 169) ms mt mp := hmv
  have hs : ∀ a : Int32, (¬ a < 0 ∧ ¬ σ 7 7 ≤ a) ↔ (¬ a < 0 ∧ ¬ σ 169 2 - 1 < a) := fun a => by rw [xs, ys]; exact shop_has (by omega)
  have hmo : ∀ a : Int32, (¬ a < 0 ∧ ¬ σ 1 9 < a) ↔ (¬ a < 0 ∧ ¬ σ 169 0 < a) := fun a => by rw [xt, yt]
  refine mI ok_X11_charge.1 rfl rfl rfl (s_X11_charge_0 g σ _ p1 p2 p3 ⟨fun c1 => ⟨fun c2 => ⟨fun c3 => ?_, fun c3 => ⟨_, rfl, mI ok_X12_charge.1 rfl rfl rfl (s_X12_charge_0 g _ _ p1 p2 p3 ⟨fun _ => ⟨fun _ => ⟨fun c => absurd c c3, fun _ => ⟨_, rfl, rfl, hI⟩⟩, fun c => absurd ((hmo p2).mp c2) c⟩, fun c => absurd ((hs p1).mp c1) c⟩)⟩⟩, fun c2 => ⟨_, rfl, mI ok_X12_charge.1 rfl rfl rfl (s_X12_charge_0 g _ _ p1 p2 p3 ⟨fun _ => ⟨fun c => absurd ((hmo p2).mpr c) c2, fun _ => ⟨_, rfl, rfl, hI⟩⟩, fun c => absurd ((hs p1).mp c1) c⟩)⟩⟩, fun c1 => ⟨_, rfl, mI ok_X12_charge.1 rfl rfl rfl (s_X12_charge_0 g _ _ p1 p2 p3 ⟨fun c => absurd ((hs p1).mpr c) c1, fun _ => ⟨_, rfl, rfl, hI⟩⟩)⟩⟩)
  have c2' := (hmo p2).mp c2
  have c1' := (hs p1).mp c1
  rw [xt] at c2
  rw [xs] at c1
  obtain ⟨m, hm, rfl⟩ := rngM bt c2
  obtain ⟨s, hss, rfl⟩ := rngL c1.1 c1.2 (by omega)
  have hF : A_feet (σ 2) (σ 169) := hF
  have hfe : ∀ p, p < 12 → ∃ v, 10 ≤ v ∧ v ≤ 999 ∧ σ 2 p = nI v := fun p hp => (hF p hp).2
  refine c_X2_look (σ := σ) (n := σ 169) hmv xm bm bs xs bd xd bt (m := m) (by omega) _ (fun τ hl hm1 hC => ?_)
  have hA := hmv.inj bs m
  have hlt := hmv.lt m
  generalize hAA : (fun s => plc ms mt mp m s nm) = A at hC hA
  have hlt : ∀ s, ns ≤ s → A s = none := fun s hs => by rw [← hAA]; exact hlt s hs
  have f169 : τ 169 = σ 169 := hl.at 169 (by omega)
  have f5 : τ 5 = σ 5 := hl.at 5 (by omega)
  have f6 : τ 6 = σ 6 := hl.at 6 (by omega)
  have f8 : τ 8 = σ 8 := hl.at 8 (by omega)
  have f9 : τ 9 = σ 9 := hl.at 9 (by omega)
  have f10 : τ 10 = σ 10 := hl.at 10 (by omega)
  have f11 : τ 11 = σ 11 := hl.at 11 (by omega)
  have f12 : τ 12 = σ 12 := hl.at 12 (by omega)
  have f13 : τ 13 = σ 13 := hl.at 13 (by omega)
  have f7 : τ 7 = σ 7 := hl.at 7 (by omega)
  have ST : ∀ Φ : vt_Sg → Prop, (∀ f : Nat → Int32, (∀ s, s < 12 → f s = opM (A s)) → Φ (su τ 175 f)) → vt_Mv g 1 D_X12_findStands [.ref (g.2.1 168), .int (nI m)] τ Φ := fun Φ h => c_X12_findStands (σ := τ) (t := t) (ns := ns) (nm := nm) (m1 := σ 16) (m2 := σ 17) (m3 := σ 18) (ms := ms) (mt := mt) (mp := mp) (by rw [f169]; exact ys) (by rw [f169]; exact ym) bm (by rw [f169]; exact hmv) bs bt (by omega) Φ (fun f hf => h f (fun s hs => by rw [hf s hs, ← hAA]))
  have IV : ∀ f, Inv (su τ 175 f) := fun f => hI.fr (fun k hk => by rw [su_ne (by omega)]; exact hl.at k (by omega))
  have S9 : ∀ f, su τ 175 f 169 = σ 169 := fun f => f169
  have S1 : ∀ f, su τ 175 f 169 1 = nI nd := fun f => by rw [S9]; exact yd
  have SS : ∀ f, A_shops ns (σ 8) (σ 9) (σ 10) (σ 11) (σ 12) (σ 13) (σ 14) (su τ 175 f 169) := fun f => by rw [S9]; exact hS
  have SD : ∀ f, A_doors nd (σ 5) (σ 6) (su τ 175 f 169) := fun f => by rw [S9]; exact hD
  have f2 : τ 2 = σ 2 := hl.at 2 (by omega)
  have CF : ∀ p, p < 12 → ∀ Φ : Int32 → vt_Sg → Prop, Φ (byPl A (pay (σ 8) (σ 2)) p) τ → vt_Mi g 0 D_X2_chargedFeet [.ref (g.2.1 116), .int (nI p)] τ Φ := fun p hp Φ h => c_X2_chargedFeet hC hp Φ (by rw [f8, f2]; exact h)
  obtain ⟨ca, k1, k2, k3⟩ := sm_pos (F := byPl A (pay (σ 8) (σ 2))) 12 (fun p hp => byPl_r hfe hp)
  have allE := by_eq hA (pay (σ 8) (σ 2))
  generalize hall : sm 12 (byPl A (pay (σ 8) (σ 2))) = all at k2 allE
  -- the reference
  have M : ∀ r : Int32, (∀ q, A s = some q → ¬ σ 8 s = 3 → ¬ all = 0 ∧ r = (p3 * σ 2 q / all) + (if p3 - sm 12 (bySh A (pay (σ 8) (fun p => p3 * σ 2 p / all))) ≤ sm 12 (bySh A (pay (σ 8) (fun p => ind (decide (p < q))))) then 0 else 1)) → ((A s = none ∨ σ 8 s = 3) → r = 0) → vt_Mi g 2 D_X12_charge [.ref (g.2.1 168), .int (nI s), .int (nI m), .int p3] τ (fun r' σ2 => r = r' ∧ Inv σ2) := by
    intro r H1 H2
    refine mI ok_X12_charge.1 rfl rfl rfl (s_X12_charge_0 g _ _ (nI s) (nI m) p3 ⟨fun _ => ⟨fun _ => ⟨fun _ => ST _ (fun f hf => ?_), fun c => absurd c3 c⟩, fun c => absurd (by rw [f169]; exact c2') c⟩, fun c => absurd (by rw [f169]; exact c1') c⟩)
    have e0 : (30 : Int32) + 8 * nI s + 0 = nI (30 + 8 * s + 0) := shop_ix (f := 0)
    have es : ∀ i, i < 12 → su τ 175 f 175 (nI i).toNatClampNeg = opM (A i) := fun i hi => by rw [nI_clamp (by omega)]; exact hf i hi
    have vs : ∀ i, i < ns → su τ 175 f 169 (30 + 8 * i + 0) = σ 8 i := fun i hi => by rw [S9]; exact (hS i hi).1
    rw [es s (by omega), e0, nI_clamp (by omega), vs s hss]
    refine ⟨inN (by omega) (by omega), inN (by omega) (by omega), fun c => ?_, fun c => ⟨_, rfl, H2 ?_, IV f⟩⟩
    rotate_left
    · cases ha : A s with
      | none => exact Or.inl rfl
      | some q =>
        refine Or.inr (Classical.byContradiction fun z => c ⟨?_, z⟩)
        rw [ha]; exact nI_pos (by have := hA.2.1 s q ha; omega)
    cases ha : A s with
    | none => rw [ha] at c; exact absurd (by decide) c.1
    | some q =>
      have hq := hA.2.1 s q ha
      obtain ⟨H0, H1⟩ := H1 q ha c.2
      -- one shop: does it pay
      have step : ∀ i, i < 12 → (¬ opM (A i) < 0 ∧ ¬ su τ 175 f 169 (30 + 8 * i + 0) = 3 → ∃ p, p < 12 ∧ A i = some p ∧ (10 : Int32) + opM (A i) = nI (10 + p) ∧ ∀ v, bySh A (pay (σ 8) v) i = v p) ∧ (¬ (¬ opM (A i) < 0 ∧ ¬ su τ 175 f 169 (30 + 8 * i + 0) = 3) → ∀ v, bySh A (pay (σ 8) v) i = 0) := by
        intro i hi
        cases hb : A i with
        | none => exact ⟨fun z => absurd (show opM none < 0 by decide) z.1, fun _ v => by unfold bySh; rw [hb]⟩
        | some p =>
          have hp := hA.2.1 i p hb
          have hi2 : i < ns := Nat.lt_of_not_le (fun z => by rw [hlt i z] at hb; cases hb)
          rw [vs i hi2]
          refine ⟨fun z => ⟨p, hp, rfl, nI_add 10 p, fun v => ?_⟩, fun z v => ?_⟩
          · unfold bySh; rw [hb]; exact if_neg z.2
          · unfold bySh; rw [hb]
            refine if_pos (Classical.byContradiction fun y => z ⟨nI_pos (by omega), y⟩)
      have fv : ∀ p, p < 12 → su τ 175 f 169 (10 + p) = σ 2 p := fun p hp => by rw [S9]; exact (hF p hp).1
      have ei : ∀ i, (30 : Int32) + 8 * nI i + 0 = nI (30 + 8 * i + 0) := fun i => shop_ix (f := 0)
      refine lpD 12 (fun i => TT g (vt_R 2) 0 0 D_X12_charge none 50 [some (.ref (g.2.1 168)), some (.int (nI s)), some (.int (nI m)), some (.int p3), some (.int (sm i (bySh A (pay (σ 8) (σ 2))))), some (.int (nI i)), none, none] [] (su τ 175 f) (fun v σ' => ∃ r', v = some (Value.int r') ∧ r = r' ∧ Inv σ')) ?_ ?_
      · refine s_X12_charge_50 g _ _ _ _ _ _ _ ⟨fun _ => ?_, fun z => absurd (show (12 : Int32) ≤ 12 from by decide) z⟩
        rw [← allE]
        have l : TT g (vt_R 2) 0 0 D_X12_charge none 105 [some (.ref (g.2.1 168)), some (.int (nI s)), some (.int (nI m)), some (.int p3), some (.int all), some (.int (p3 - sm 0 (bySh A (pay (σ 8) (fun p => p3 * σ 2 p / all))))), some (.int (sm 0 (bySh A (pay (σ 8) (fun p => ind (decide (p < q))))))), some (.int (nI 0))] [] (su τ 175 f) (fun v σ' => ∃ r', v = some (Value.int r') ∧ r = r' ∧ Inv σ') := by
          refine lpD 12 (fun i => TT g (vt_R 2) 0 0 D_X12_charge none 105 [some (.ref (g.2.1 168)), some (.int (nI s)), some (.int (nI m)), some (.int p3), some (.int all), some (.int (p3 - sm i (bySh A (pay (σ 8) (fun p => p3 * σ 2 p / all))))), some (.int (sm i (bySh A (pay (σ 8) (fun p => ind (decide (p < q))))))), some (.int (nI i))] [] (su τ 175 f) (fun v σ' => ∃ r', v = some (Value.int r') ∧ r = r' ∧ Inv σ')) ?_ ?_
          · refine s_X12_charge_105 g _ _ _ _ _ _ _ _ _ ⟨fun _ => ?_, fun z => absurd (show (12 : Int32) ≤ 12 from by decide) z⟩
            have eq : (10 : Int32) + opM (A s) = nI (10 + q) := by rw [ha]; exact nI_add 10 q
            rw [es s (by omega), eq, nI_clamp (by omega), fv q hq]
            refine ⟨inN (by omega) (by omega), inN (by omega) (by omega), H0, fun z => ⟨_, rfl, ?_, IV f⟩, fun z => ⟨_, rfl, ?_, IV f⟩⟩
            · rw [if_pos z] at H1; exact H1
            · rw [if_neg z] at H1; exact H1
          · intro i hi ih
            obtain ⟨s1, s2⟩ := step i hi
            refine s_X12_charge_105 g _ _ _ _ _ _ _ _ _ ⟨fun z => absurd z (nI_ge (b := 12) hi (by omega)), fun _ => ?_⟩
            have ih : TT g (vt_R 2) 0 0 D_X12_charge none 105 [some (.ref (g.2.1 168)), some (.int (nI s)), some (.int (nI m)), some (.int p3), some (.int all), some (.int (p3 - (sm i (bySh A (pay (σ 8) (fun p => p3 * σ 2 p / all))) + bySh A (pay (σ 8) (fun p => p3 * σ 2 p / all)) i))), some (.int (sm i (bySh A (pay (σ 8) (fun p => ind (decide (p < q))))) + bySh A (pay (σ 8) (fun p => ind (decide (p < q)))) i)), some (.int (nI (i + 1)))] [] (su τ 175 f) (fun v σ' => ∃ r', v = some (Value.int r') ∧ r = r' ∧ Inv σ') := ih
            rw [← i32_ss] at ih
            rw [es i hi, es s (by omega), ei, nI_clamp (n := 30 + 8 * i + 0) (by omega), nI_1]
            refine ⟨inN (by omega) (by omega), inN (by omega) (by omega), fun z => ?_, fun z => ?_⟩
            · obtain ⟨p, hp, hb, e1, e2⟩ := s1 z
              rw [e2, e2] at ih
              rw [e1, nI_clamp (by omega), fv p hp, hb, ha]
              refine ⟨inN (by omega) (by omega), H0, inN (by omega) (by omega), fun y => ?_, fun y => ?_⟩
              · rw [decide_eq_false (fun x => absurd y (nI_ge x (by omega)))] at ih; exact ih
              · rw [decide_eq_true (Nat.lt_of_not_le (fun x => y (nI_le x (by omega))))] at ih; exact ih
            · rw [s2 z, s2 z] at ih; exact ih
        have z : p3 - sm 0 (bySh A (pay (σ 8) (fun p => p3 * σ 2 p / all))) = p3 := Int32.sub_zero p3
        rw [z] at l
        exact l
      · intro i hi ih
        obtain ⟨s1, s2⟩ := step i hi
        refine s_X12_charge_50 g _ _ _ _ _ _ _ ⟨fun z => absurd z (nI_ge (b := 12) hi (by omega)), fun _ => ?_⟩
        have ih : TT g (vt_R 2) 0 0 D_X12_charge none 50 [some (.ref (g.2.1 168)), some (.int (nI s)), some (.int (nI m)), some (.int p3), some (.int (sm i (bySh A (pay (σ 8) (σ 2))) + bySh A (pay (σ 8) (σ 2)) i)), some (.int (nI (i + 1))), none, none] [] (su τ 175 f) (fun v σ' => ∃ r', v = some (Value.int r') ∧ r = r' ∧ Inv σ') := ih
        rw [es i hi, ei, nI_clamp (n := 30 + 8 * i + 0) (by omega), nI_1]
        refine ⟨inN (by omega) (by omega), inN (by omega) (by omega), fun z => ?_, fun z => ?_⟩
        · obtain ⟨p, hp, hb, e1, e2⟩ := s1 z
          rw [e2] at ih
          rw [e1, nI_clamp (by omega), fv p hp]
          exact ⟨inN (by omega) (by omega), ih⟩
        · rw [s2 z] at ih; exact ih
  -- the component
  refine lpD 12 (fun i => TT g (vt_R 3) 0 0 D_X11_charge none 49 [some (.ref (g.2.1 0)), some (.int (nI s)), some (.int (nI m)), some (.int p3), some (.int (sm i (byPl A (pay (σ 8) (σ 2))))), some (.int (nI i)), none, none, none, none] [] τ (fun v σ' => ∃ r, v = some (Value.int r) ∧ vt_Mi g 2 D_X12_charge [.ref (g.2.1 168), .int (nI s), .int (nI m), .int p3] σ' (fun r' σ2 => r = r' ∧ Inv σ2))) ?_ ?_
  · refine s_X11_charge_49 g _ _ _ _ _ _ _ ⟨fun _ => ⟨inN (by omega) (by omega), ?_⟩, fun z => absurd (show (12 : Int32) ≤ 12 from by decide) z⟩
    rw [nI_clamp (by omega), hC.1 s (by omega), hall]
    cases ha : A s with
    | none => exact ⟨fun _ => ⟨_, rfl, M _ (fun q e => by rw [ha] at e; cases e) (fun _ => rfl)⟩, fun c => absurd rfl c⟩
    | some q =>
      have hq := hA.2.1 s q ha
      have hb := Bf_of hA (by omega : s < 12) ha
      have own : byPl A (pay (σ 8) (σ 2)) q = if σ 8 s = 3 then 0 else σ 2 q := by unfold byPl; rw [hb]; rfl
      obtain ⟨v, v1, v2, v3⟩ := hfe q hq
      have zero : byPl A (pay (σ 8) (σ 2)) q = 0 → σ 8 s = 3 := by
        intro z
        refine Classical.byContradiction fun y => ?_
        rw [own, if_neg y, v3] at z
        exact nI_ne0 (by omega) (by omega) z
      refine ⟨fun c => absurd c (nI_neNONE (by omega)), fun _ => ⟨fun z => ⟨_, rfl, M _ (fun q' e y => ?_) (fun _ => rfl)⟩, fun z => CF q hq _ ⟨fun y => ?_, fun y => ⟨_, rfl, M _ (fun q' e w => absurd (zero y) w) (fun _ => rfl)⟩⟩⟩⟩
      · rw [k2] at z
        have : ca = 0 := nI_inj (b := 0) z (by omega) (by omega)
        exact absurd (zero (k3 this q hq)) y
      · have ny : ¬ σ 8 s = 3 := fun w => y (by rw [own, if_pos w])
        have l : TT g (vt_R 3) 0 0 D_X11_charge none 122 [some (.ref (g.2.1 0)), some (.int (nI s)), some (.int (nI m)), some (.int p3), some (.int all), some (.int (nI q)), some (.int (p3 - sm 0 (byPl A (pay (σ 8) (fun p => p3 * σ 2 p / all))))), some (.int (sm 0 (byPl A (pay (σ 8) (fun p => ind (decide (p < q))))))), some (.int (nI 0)), none] [] τ (fun v σ' => ∃ r, v = some (Value.int r) ∧ vt_Mi g 2 D_X12_charge [.ref (g.2.1 168), .int (nI s), .int (nI m), .int p3] σ' (fun r' σ2 => r = r' ∧ Inv σ2)) := by
          refine lpD 12 (fun i => TT g (vt_R 3) 0 0 D_X11_charge none 122 [some (.ref (g.2.1 0)), some (.int (nI s)), some (.int (nI m)), some (.int p3), some (.int all), some (.int (nI q)), some (.int (p3 - sm i (byPl A (pay (σ 8) (fun p => p3 * σ 2 p / all))))), some (.int (sm i (byPl A (pay (σ 8) (fun p => ind (decide (p < q))))))), some (.int (nI i)), none] [] τ (fun v σ' => ∃ r, v = some (Value.int r) ∧ vt_Mi g 2 D_X12_charge [.ref (g.2.1 168), .int (nI s), .int (nI m), .int p3] σ' (fun r' σ2 => r = r' ∧ Inv σ2))) ?_ ?_
          · refine s_X11_charge_122 g _ _ _ _ _ _ _ _ _ _ ⟨fun _ => CF q hq _ ⟨z, ?_⟩, fun z => absurd (show (12 : Int32) ≤ 12 from by decide) z⟩
            rw [own, if_neg ny, by_eq hA, by_eq hA]
            refine ⟨fun w => ⟨_, rfl, M _ (fun q' e _ => ⟨z, ?_⟩) (fun e => ?_)⟩, fun w => ⟨_, rfl, M _ (fun q' e _ => ⟨z, ?_⟩) (fun e => ?_)⟩⟩
            · rw [ha] at e; cases e; rw [if_pos w]
            · rcases e with e | e
              · rw [ha] at e; cases e
              · exact absurd e ny
            · rw [ha] at e; cases e; rw [if_neg w]
            · rcases e with e | e
              · rw [ha] at e; cases e
              · exact absurd e ny
          · intro i hi ih
            refine s_X11_charge_122 g _ _ _ _ _ _ _ _ _ _ ⟨fun z => absurd z (nI_ge (b := 12) hi (by omega)), fun _ => CF i hi _ ⟨z, ?_⟩⟩
            have ih : TT g (vt_R 3) 0 0 D_X11_charge none 122 [some (.ref (g.2.1 0)), some (.int (nI s)), some (.int (nI m)), some (.int p3), some (.int all), some (.int (nI q)), some (.int (p3 - (sm i (byPl A (pay (σ 8) (fun p => p3 * σ 2 p / all))) + byPl A (pay (σ 8) (fun p => p3 * σ 2 p / all)) i))), some (.int (sm i (byPl A (pay (σ 8) (fun p => ind (decide (p < q))))) + byPl A (pay (σ 8) (fun p => ind (decide (p < q)))) i)), some (.int (nI (i + 1))), none] [] τ (fun v σ' => ∃ r, v = some (Value.int r) ∧ vt_Mi g 2 D_X12_charge [.ref (g.2.1 168), .int (nI s), .int (nI m), .int p3] σ' (fun r' σ2 => r = r' ∧ Inv σ2)) := ih
            rw [← i32_ss, ← shr_eq, ← ahd_eq hfe hi] at ih
            rw [nI_1]
            refine ⟨fun w => ?_, fun w => ⟨fun y => ?_, fun y => ?_⟩⟩
            · have : decide (¬ byPl A (pay (σ 8) (σ 2)) i ≤ 0) = false := decide_eq_false (fun x => x w)
              rw [this, Bool.false_and, show ind false = 0 from rfl, Int32.add_zero] at ih; exact ih
            · have : decide (i < q) = false := decide_eq_false (fun x => absurd y (nI_ge x (by omega)))
              rw [this, Bool.and_false, show ind false = 0 from rfl, Int32.add_zero] at ih; exact ih
            · have t1 : decide (i < q) = true := decide_eq_true (Nat.lt_of_not_le (fun x => y (nI_le x (by omega))))
              have t2 : decide (¬ byPl A (pay (σ 8) (σ 2)) i ≤ 0) = true := decide_eq_true w
              rw [t1, t2] at ih; exact ih
        have zz : p3 - sm 0 (byPl A (pay (σ 8) (fun p => p3 * σ 2 p / all))) = p3 := Int32.sub_zero p3
        rw [zz] at l
        exact l
  · intro i hi ih
    refine s_X11_charge_49 g _ _ _ _ _ _ _ ⟨fun z => absurd z (nI_ge (b := 12) hi (by omega)), fun _ => CF i hi _ ?_⟩
    rw [nI_1]
    exact ih
end OPS12
