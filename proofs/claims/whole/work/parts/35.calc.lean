/-! THE VALUES OF NAMES -/
section CALC
variable {g : vt_GT} {σ : vt_Sg} {p1 p2 p3 p4 p5 : Int32} {A : Nat → Option Nat} {nd ns nl : Nat}
/-- what a name stands for -/
def nvl (A : Nat → Option Nat) (nd : Nat) (fe dp dq ki so pu ne : Nat → Int32) (tk m : Int32) (s p : Nat) (b : Int32) : Int32 :=
  if b = 97 then othN A ki so ne 5 s else if b = 102 then fe p else if b = 107 then ki s else if b = 109 then m else if b = 110 then othN A ki so ne 6 s else if b = 111 then othN A ki so ne 4 s else if b = 116 then tk else if b = 118 then pst A pu dp dq nd (nI p) else if b = 120 then (if othN A ki so ne 7 s ≤ 1 then othN A ki so ne 7 s else 1) else cmr A pu dq nd s
theorem c_X1_valueOf (hC : CR σ A nd) (hA : inj12 A) (hlt : ∀ s, ns ≤ s → A s = none) (hns : ns ≤ 12) (h7 : σ 7 7 = nI ns) (hl : σ 19 5 = nI nl) (hnl : nl ≤ 100) {s p : Nat} (hs : s < 12) (ha : A s = some p) {b k : Int32} (Φ : Int32 → vt_Sg → Prop)
    (h : Φ (nvl A nd (σ 2) (σ 5) (σ 6) (σ 8) (σ 9) (σ 10) (σ 12) (mx0 (sm nl (tkv (σ 20) (σ 21) (σ 22) (σ 23) (σ 24) (nI s) (σ 116 1) k))) (σ 116 1) s p b) σ) : vt_Mi g 2 D_X1_valueOf [.int b, .ref (g.2.1 116), .int (nI s), .int k] σ Φ := by
  obtain ⟨c1, c2, c3, c4, c5⟩ := id hC
  have hp := hA.2.1 s p ha
  have ep : σ 117 s = nI p := (c1 s hs).trans (by rw [ha]; rfl)
  have N0 : ¬ nI p = -1000000005 := nI_neNONE (by omega)
  refine mI ok_X1_valueOf.1 rfl rfl rfl (s_X1_valueOf_0 g σ _ b (nI s) k ⟨inN hs (by omega), ?_⟩)
  rw [nI_clamp (n := s) (by omega), ep, nI_clamp (n := p) (by omega), if_neg N0, c3, c4 s hs, c5 p hp]
  unfold nvl at h
  refine ⟨fun _ => ⟨fun z1 => c_X2_anchors (ns := ns) hC hlt hns h7 hs hA _ ⟨_, rfl, ?_⟩, fun z1 => ⟨fun z2 => ⟨inN hp (by omega), _, rfl, ?_⟩, fun z2 => ⟨fun z3 => ⟨_, rfl, ?_⟩, fun z3 => ⟨fun z4 => ⟨_, rfl, ?_⟩, fun z4 => ⟨fun z5 => c_X2_beside hC hp _ ⟨_, rfl, ?_⟩, fun z5 => ⟨fun z6 => ⟨_, rfl, ?_⟩, fun z6 => ⟨fun z7 => c_X5_sum (nl := nl) hl hnl _ ⟨_, rfl, ?_⟩, fun z7 => ⟨fun z8 => ⟨inN hp (by omega), _, rfl, ?_⟩, fun z8 => ⟨fun z9 => c_X2_rivalNear hC hA hs ha _ ?_, fun z9 => ⟨_, rfl, ?_⟩⟩⟩⟩⟩⟩⟩⟩⟩⟩, fun z => absurd z N0⟩
  · rw [if_pos z1] at h; exact h
  · rw [if_neg z1, if_pos z2] at h; exact h
  · rw [if_neg z1, if_neg z2, if_pos z3] at h; exact h
  · rw [if_neg z1, if_neg z2, if_neg z3, if_pos z4] at h; exact h
  · rw [if_neg z1, if_neg z2, if_neg z3, if_neg z4, if_pos z5, ← oth6 hA ha] at h; exact h
  · rw [if_neg z1, if_neg z2, if_neg z3, if_neg z4, if_neg z5, if_pos z6, ← oth4 hs ha] at h; exact h
  · rw [if_neg z1, if_neg z2, if_neg z3, if_neg z4, if_neg z5, if_neg z6, if_pos z7] at h; exact h
  · rw [if_neg z1, if_neg z2, if_neg z3, if_neg z4, if_neg z5, if_neg z6, if_neg z7, if_pos z8] at h; exact h
  · rw [if_neg z1, if_neg z2, if_neg z3, if_neg z4, if_neg z5, if_neg z6, if_neg z7, if_neg z8, if_pos z9] at h
    rcases oth7_val (A := A) (ki := σ 8) (so := σ 9) (ne := σ 12) (s := s) with ⟨e, _⟩ | ⟨e, _⟩
    · rw [e] at h ⊢
      exact ⟨fun _ => ⟨_, rfl, h⟩, fun z => absurd rfl z⟩
    · rw [e] at h ⊢
      exact ⟨fun z => absurd z (by decide), fun _ => ⟨_, rfl, h⟩⟩
  · rw [if_neg z1, if_neg z2, if_neg z3, if_neg z4, if_neg z5, if_neg z6, if_neg z7, if_neg z8, if_neg z9] at h; exact h
theorem c_X12_named {fe dp dq ki so pu lu ne sp a l1 l2 l3 l4 l5 : Nat → Int32} {ls lm lt : Nat → Nat} {lw : Nat → Option Nat} (hst : ∀ s, s < 12 → σ 175 s = opM (A s)) (hA : inj12 A) (hlt : ∀ s, ns ≤ s → A s = none) (hns : ns ≤ 12) (hS : A_shops ns ki so pu lu ne sp a (σ 169)) (hD : A_doors nd dp dq (σ 169)) (hnd : nd ≤ 4) (h1 : σ 169 1 = nI nd) (hF : A_feet fe (σ 169)) (hl : σ 169 4 = nI nl) (hnl : nl ≤ 100) (hln : A_ln nl l1 l2 l3 l4 l5 (σ 169) ls lm lt lw)
    {s p i : Nat} (hs : s < ns) (ha : A s = some p) {m k : Int32} (hk : ¬ k < 0) (hi : i < 10) (Φ : Int32 → vt_Sg → Prop)
    (h : Φ (nvl A nd fe dp dq ki so pu ne (mx0 (sm nl (tkv l1 l2 l3 l4 l5 (nI s) m k))) m s p (namesB.getD i 0)) σ) : vt_Mi g 3 D_X12_named [.ref (g.2.1 168), .int (nI i), .int (nI s), .int m, .int k] σ Φ := by
  have hp := hA.2.1 s p ha
  have es : σ 175 (nI s).toNatClampNeg = nI p := by rw [nI_clamp (by omega), hst s (by omega), ha]; rfl
  have e0 : (30 : Int32) + 8 * nI s + 0 = nI (30 + 8 * s + 0) := shop_ix (f := 0)
  have e1 : (10 : Int32) + nI p = nI (10 + p) := nI_add 10 p
  have O : ∀ w : Int32, ¬ w = 7 → ∀ Φ : Int32 → vt_Sg → Prop, Φ (othN A ki so ne w s) σ → vt_Mi g 1 D_X12_others [.ref (g.2.1 168), .int (nI s), .int w] σ Φ := fun w hw Φ h => c_X12_others hst hA hlt hns hS hs Φ (by rw [if_neg hw]; exact h)
  refine mI ok_X12_named.1 rfl rfl rfl (s_X12_named_0 g σ _ (nI i) (nI s) m k ?_)
  rw [es, e0, e1, nI_clamp (by omega), nI_clamp (by omega), (hF p hp).1, show σ 169 (30 + 8 * s + 0) = ki s from (hS s hs).1]
  have cs : ∀ j, j < 10 → (nI i = nI j ↔ i = j) := fun j hj => ⟨fun q => nI_inj q (by omega) (by omega), fun q => by rw [q]⟩
  have I12 : vp_in (nI s) 12 := inN (by omega) (by omega)
  refine ⟨fun z0 => c_X12_taken (nl := nl) hl hnl hln hk _ ⟨_, rfl, ?_⟩, fun z0 => ⟨fun z1 => ⟨I12, inN (by omega) (by omega), _, rfl, ?_⟩, fun z1 => ⟨fun z2 => O 5 (by decide) _ ⟨_, rfl, ?_⟩, fun z2 => ⟨fun z3 => O 4 (by decide) _ ⟨_, rfl, ?_⟩, fun z3 => ⟨fun z4 => ⟨I12, c_X12_passers hst hA hlt hS hD hnd h1 _ _ ⟨_, rfl, ?_⟩⟩, fun z4 => ⟨fun z5 => ⟨inN (by omega) (by omega), _, rfl, ?_⟩, fun z5 => ⟨fun z6 => O 6 (by decide) _ ⟨_, rfl, ?_⟩, fun z6 => ⟨fun z7 => ⟨_, rfl, ?_⟩, fun z7 => ⟨fun z8 => c_X12_others hst hA hlt hns hS hs _ ⟨_, rfl, ?_⟩, fun z8 => c_X12_comers hst hA hlt hS hD hnd h1 (by omega) _ ⟨_, rfl, ?_⟩⟩⟩⟩⟩⟩⟩⟩⟩⟩
  · rw [show i = 0 from (cs 0 (by omega)).mp z0] at h; exact h
  · rw [show i = 1 from (cs 1 (by omega)).mp z1] at h; exact h
  · rw [show i = 2 from (cs 2 (by omega)).mp z2] at h; exact h
  · rw [show i = 3 from (cs 3 (by omega)).mp z3] at h; exact h
  · rw [show i = 4 from (cs 4 (by omega)).mp z4] at h; exact h
  · rw [show i = 5 from (cs 5 (by omega)).mp z5] at h; exact h
  · rw [show i = 6 from (cs 6 (by omega)).mp z6] at h; exact h
  · rw [show i = 7 from (cs 7 (by omega)).mp z7] at h; exact h
  · rw [show i = 8 from (cs 8 (by omega)).mp z8] at h; rw [if_pos rfl]; exact h
  · have : i = 9 := by
      have n0 : ¬ i = 0 := fun q => z0 ((cs 0 (by omega)).mpr q)
      have n1 : ¬ i = 1 := fun q => z1 ((cs 1 (by omega)).mpr q)
      have n2 : ¬ i = 2 := fun q => z2 ((cs 2 (by omega)).mpr q)
      have n3 : ¬ i = 3 := fun q => z3 ((cs 3 (by omega)).mpr q)
      have n4 : ¬ i = 4 := fun q => z4 ((cs 4 (by omega)).mpr q)
      have n5 : ¬ i = 5 := fun q => z5 ((cs 5 (by omega)).mpr q)
      have n6 : ¬ i = 6 := fun q => z6 ((cs 6 (by omega)).mpr q)
      have n7 : ¬ i = 7 := fun q => z7 ((cs 7 (by omega)).mpr q)
      have n8 : ¬ i = 8 := fun q => z8 ((cs 8 (by omega)).mpr q)
      omega
    rw [this] at h; exact h
end CALC
