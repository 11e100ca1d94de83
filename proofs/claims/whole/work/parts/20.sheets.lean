/-! OPERATIONS on sheets -/
section OPS4
variable {g : vt_GT} {σ : vt_Sg} {p1 p2 p3 p4 p5 : Int32}
def SheetI (σ : vt_Sg) : Prop := ∀ s, s < 2 → I_sh1 (σ 115 s) (σ 173 s) (σ (113 + s)) (fun j => σ 174 (16 * s + j))
theorem sheet_iff : I_sheet (σ 115) (σ 173) (σ 113) (σ 114) (σ 174) ↔ SheetI σ := by
  have e0 : (fun j => σ 174 (16 * 0 + j)) = σ 174 := funext fun j => by rw [show 16 * 0 + j = j by omega]
  constructor
  · rintro ⟨h0, h1⟩ s hs
    match s, hs with
    | 0, _ => rw [e0]; exact h0
    | 1, _ => exact h1
  · intro h
    have h0 := h 0 (by omega)
    rw [e0] at h0
    exact ⟨h0, h 1 (by omega)⟩
theorem sh_is : (p1 = 0 ∨ p1 = 1) ↔ (¬ p1 < (0 : Int32) ∧ ¬ (1 : Int32) < p1) := by
  constructor
  · rintro (rfl | rfl) <;> exact ⟨by decide, by decide⟩
  · rintro ⟨h1, h2⟩
    obtain ⟨j, hj, rfl⟩ := rng h1 h2 (n := 1) rfl
    match j, hj with
    | 0, _ => exact Or.inl rfl
    | 1, _ => exact Or.inr rfl
theorem sh_nat (h : p1 = 0 ∨ p1 = 1) : ∃ s : Nat, s < 2 ∧ p1 = nI s := by
  rcases h with rfl | rfl
  · exact ⟨0, by omega, rfl⟩
  · exact ⟨1, by omega, rfl⟩
/-- zeros from b on, i of them -/
def zf (c : Nat → Int32) (b i : Nat) : Nat → Int32 := fun j => if b ≤ j ∧ j < b + i then 0 else c j
theorem zf_0 {c : Nat → Int32} {b : Nat} : zf c b 0 = c := funext fun j => if_neg (by omega)
theorem zf_1 {c : Nat → Int32} {b i : Nat} : upd (zf c b i) (b + i) 0 = zf c b (i + 1) := by
  funext j
  unfold upd zf
  by_cases e : j = b + i
  · rw [if_pos e, if_pos (by omega)]
  · rw [if_neg e]
    by_cases h : b ≤ j ∧ j < b + i
    · rw [if_pos h, if_pos (by omega)]
    · rw [if_neg h, if_neg (by omega)]
theorem l_msheet {s : Nat} (hs : s < 2) {x2 : Int32} (P : Option Value → vt_Sg → Prop) (h : P (some (.int x2)) (su σ 174 (zf (σ 174) (16 * s) 16))) : TT g (vt_R 1) 0 0 D_X12_sheet none 35 [some (.ref (g.2.1 168)), some (.int (nI s)), some (.int x2), some (.int 0)] [] σ P := by
  have key := lpD 16 (fun i => TT g (vt_R 1) 0 0 D_X12_sheet none 35 [some (.ref (g.2.1 168)), some (.int (nI s)), some (.int x2), some (.int (nI i))] [] (su σ 174 (zf (σ 174) (16 * s) i)) P) ?_ ?_
  · rw [zf_0, su_self] at key
    exact key
  · exact s_X12_sheet_35 g _ P _ _ _ ⟨fun _ => h, fun c => absurd (by decide) c⟩
  · intro i hi ih
    have e1 : (16 : Int32) * nI s + nI i = nI (16 * s + i) := by
      show nI 16 * nI s + nI i = _
      rw [pk_mul, nI_add]
    refine s_X12_sheet_35 g _ P _ _ _ ⟨fun c => absurd (show nI 16 ≤ nI i from c) (nI_ge hi (by omega)), fun _ => ?_⟩
    rw [e1, nI_clamp (by omega), su_same, su_su, zf_1, nI_1]
    exact ⟨inN (by omega) (by omega), ih⟩
theorem op_sheet (hI : Inv σ) : vt_Mi g 2 D_X11_sheet [.ref (g.2.1 0), .int p1, .int p2] σ (fun r σ1 => vt_Mi g 1 D_X12_sheet [.ref (g.2.1 168), .int p1, .int p2] σ1 (fun r' σ2 => r = r' ∧ Inv σ2)) := by
  obtain ⟨hA, hi, ht, hw, hsh⟩ := id hI
  refine mI ok_X11_sheet.1 rfl rfl rfl (s_X11_sheet_0 g σ _ p1 p2 ⟨fun c1 => ⟨fun c2 => ⟨fun c3 => ?_, fun c3 => ?_⟩, fun c2 => ?_⟩, fun c1 => ?_⟩)
  · have c1' := sh_is.mp c1
    obtain ⟨s, hs, rfl⟩ := sh_nat c1
    obtain ⟨n, hn, rfl⟩ := rng (M := 16) (n := 16) (Int32.not_lt.mpr c3) (Int32.not_lt.mpr c2) rfl
    refine mV ok_X9_begin.1 rfl rfl rfl (s_X9_begin_0 g σ _ (nI s) (nI n) ⟨inN hs (by omega), ?_⟩)
    refine c_fillS (rw_112 (inN hs (by omega))) (by omega) _ (fun f hf _ => ⟨rfl, _, rfl, mI ok_X12_sheet.1 rfl rfl rfl (s_X12_sheet_0 g _ _ (nI s) (nI n) ⟨fun _ => ⟨fun _ => ⟨fun _ => ⟨inN hs (by omega), ?_⟩, fun c => absurd c3 c⟩, fun c => absurd c2 c⟩, fun c => absurd c1' c⟩)⟩)
    rw [nI_clamp (by omega)]
    refine l_msheet hs _ ⟨_, rfl, rfl, ?_, ?_, ?_, ?_, sheet_iff.mpr (fun s' hs' => ?_)⟩
    · simp (disch := omega) only [su_ne]
      exact hA.cg (fun k hk => by simp (disch := omega) only [su_ne])
    · have : ∀ a : Nat, a = 0 ∨ a = 168 ∨ a = 170 → su (su (su (su σ (113 + s) f) 115 (upd (su σ (113 + s) f 115) s (nI n))) 173 (upd (su (su σ (113 + s) f) 115 (upd (su σ (113 + s) f 115) s (nI n)) 173) s (nI n))) 174 (zf (su (su (su σ (113 + s) f) 115 (upd (su σ (113 + s) f 115) s (nI n))) 173 (upd (su (su σ (113 + s) f) 115 (upd (su σ (113 + s) f 115) s (nI n)) 173) s (nI n)) 174) (16 * s) 16) a = σ a := by
        intro a ha
        simp (disch := omega) only [su_ne]
      rw [this 0 (by omega), this 168 (by omega), this 170 (by omega)]
      exact hi.cg (fun k hk => by simp (disch := omega) only [su_ne])
    · simp (disch := omega) only [su_ne]
      exact ht
    · simp (disch := omega) only [su_ne]
      exact hw
    · have hq := sheet_iff.mp hsh s' hs'
      simp (disch := omega) only [su_ne, su_same]
      by_cases e : s' = s
      · subst e
        simp only [su_same, upd_same]
        refine ⟨Or.inr ⟨n, hn, rfl, rfl⟩, fun j hj => ?_⟩
        rw [hf j hj]
        refine ⟨?_, rfl⟩
        show 0 = zf _ (16 * s') 16 (16 * s' + j)
        rw [zf, if_pos (by omega)]
      · rw [su_ne (by omega), upd_ne e, upd_ne e]
        refine ⟨hq.1, fun j hj => ⟨?_, (hq.2 j hj).2⟩⟩
        show σ (113 + s') j = zf (σ 174) (16 * s) 16 (16 * s' + j)
        rw [zf, if_neg (by omega)]
        exact (hq.2 j hj).1
  · exact ⟨_, rfl, mI ok_X12_sheet.1 rfl rfl rfl (s_X12_sheet_0 g _ _ p1 p2 ⟨fun _ => ⟨fun _ => ⟨fun c => absurd c c3, fun _ => ⟨_, rfl, rfl, hI⟩⟩, fun c => absurd c2 c⟩, fun c => absurd (sh_is.mp c1) c⟩)⟩
  · exact ⟨_, rfl, mI ok_X12_sheet.1 rfl rfl rfl (s_X12_sheet_0 g _ _ p1 p2 ⟨fun _ => ⟨fun c => absurd c c2, fun _ => ⟨_, rfl, rfl, hI⟩⟩, fun c => absurd (sh_is.mp c1) c⟩)⟩
  · exact ⟨_, rfl, mI ok_X12_sheet.1 rfl rfl rfl (s_X12_sheet_0 g _ _ p1 p2 ⟨fun c => absurd (sh_is.mpr c) c1, fun _ => ⟨_, rfl, rfl, hI⟩⟩)⟩
/-- a sheet is missing, or has n places -/
theorem sh_sz {zx zm : Int32} {r c : Nat → Int32} (h : I_sh1 zx zm r c) : (zx = -1 ∧ zm = -1 ∧ ¬ 0 ≤ zm ∧ zm < 0) ∨ ∃ n : Nat, n ≤ 16 ∧ zx = nI n ∧ zm = nI n ∧ ¬ zx = -1 ∧ 0 ≤ zm ∧ ¬ zm < 0 := by
  rcases h.1 with ⟨a, b⟩ | ⟨n, hn, a, b⟩
  · exact Or.inl ⟨a, b, by rw [b]; decide, by rw [b]; decide⟩
  · exact Or.inr ⟨n, hn, a, b, by rw [a]; exact nI_neM1 (by omega), by rw [b]; exact nI_pos' (by omega), by rw [b]; exact nI_pos (by omega)⟩
theorem op_mark (hI : Inv σ) : vt_Mi g 1 D_X11_mark [.ref (g.2.1 0), .int p1, .int p2, .int p3] σ (fun r σ1 => vt_Mi g 1 D_X12_mark [.ref (g.2.1 168), .int p1, .int p2, .int p3] σ1 (fun r' σ2 => r = r' ∧ Inv σ2)) := by
  obtain ⟨hA, hi, ht, hw, hsh⟩ := id hI
  refine mI ok_X11_mark.1 rfl rfl rfl (s_X11_mark_0 g σ _ p1 p2 p3 ⟨fun c1 => ?_, fun c1 => ⟨_, rfl, mI ok_X12_mark.1 rfl rfl rfl (s_X12_mark_0 g _ _ p1 p2 p3 ⟨fun c => absurd (sh_is.mpr c) c1, fun _ => ⟨_, rfl, rfl, hI⟩⟩)⟩⟩)
  have c1' := sh_is.mp c1
  obtain ⟨s, hs, rfl⟩ := sh_nat c1
  have hq := sheet_iff.mp hsh s hs
  rw [nI_clamp (by omega)]
  refine ⟨inN hs (by omega), fun c2 => ?_, fun c2 => ?_⟩
  · rcases sh_sz hq with ⟨a1, a2, a3, a4⟩ | ⟨n, hn, a1, a2, a3, a4, a5⟩
    · exact ⟨_, rfl, mI ok_X12_mark.1 rfl rfl rfl (s_X12_mark_0 g _ _ (nI s) p2 p3 ⟨fun _ => ⟨inN hs (by omega), by rw [nI_clamp (by omega)]; exact ⟨fun c => absurd c a3, fun _ => ⟨_, rfl, rfl, hI⟩⟩⟩, fun c => absurd c1' c⟩)⟩
    · exact absurd c2 a3
  · rcases sh_sz hq with ⟨a1, a2, a3, a4⟩ | ⟨n, hn, a1, a2, a3, a4, a5⟩
    · exact absurd a1 c2
    · rw [a1]
      have key : (¬ p2 < 0 ∧ ¬ (1 : Int32) < 0 ∧ ¬ nI n < p2 ∧ ¬ nI n - p2 < (1 : Int32)) ↔ (¬ p2 < 0 ∧ ¬ nI n - 1 < p2) := by
        rw [← shop_has (a := p2) (ns := n) (by omega)]
        constructor
        · rintro ⟨b1, -, b2, b3⟩
          refine ⟨b1, fun q => ?_⟩
          obtain ⟨j, hj, rfl⟩ := rng b1 b2 (n := n) (nI_toInt (by omega))
          have : n ≤ j := (nI_leI (by omega) (by omega)).mp q
          have : j = n := by omega
          subst this
          exact b3 (by rw [Int32.sub_self]; decide)
        · rintro ⟨b1, b2⟩
          obtain ⟨j, hj, rfl⟩ := rngL b1 b2 (by omega)
          refine ⟨b1, by decide, nI_nlt (by omega) (by omega), ?_⟩
          rw [pk_sub (by omega)]
          exact nI_nlt (b := 1) (by omega) (by omega)
      refine ⟨fun c3 => ?_, fun c3 => ?_⟩
      · have c3' := key.mp c3
        obtain ⟨j, hj, rfl⟩ := rngL c3.1 ((shop_has (by omega)).mpr c3').2 (by omega)
        have e1 : (16 : Int32) * nI s + nI j = nI (16 * s + j) := by
          show nI 16 * nI s + nI j = _
          rw [pk_mul, nI_add]
        rw [nI_clamp (n := j) (by omega), pk_vs]
        refine ⟨inN (by omega) (by omega), _, rfl, mI ok_X12_mark.1 rfl rfl rfl (s_X12_mark_0 g _ _ (nI s) (nI j) p3 ⟨fun _ => ⟨inN hs (by omega), ?_⟩, fun c => absurd c1' c⟩)⟩
        rw [nI_clamp (n := s) (by omega), e1, nI_clamp (by omega)]
        simp (disch := omega) only [su_ne]
        rw [a2]
        refine ⟨fun _ => ⟨fun _ => ⟨inN (by omega) (by omega), _, rfl, (hq.2 j (by omega)).1, ?_, ?_, ?_, ?_, sheet_iff.mpr (fun s' hs' => ?_)⟩, fun c => absurd c3' c⟩, fun c => absurd (nI_pos' (by omega)) c⟩
        · simp (disch := omega) only [su_ne]
          exact hA.cg (fun k hk => by simp (disch := omega) only [su_ne])
        · simp (disch := omega) only [su_ne]
          exact hi.cg (fun k hk => by simp (disch := omega) only [su_ne])
        · simp (disch := omega) only [su_ne]
          exact ht
        · simp (disch := omega) only [su_ne]
          exact hw
        · have hq' := sheet_iff.mp hsh s' hs'
          simp (disch := omega) only [su_ne, su_same]
          by_cases e : s' = s
          · subst e
            rw [su_same]
            refine ⟨hq'.1, fun i hi => ?_⟩
            by_cases e2 : i = j
            · subst e2
              rw [upd_same]
              exact ⟨upd_same.symm, pk_fs p3⟩
            · rw [upd_ne e2]
              exact ⟨(hq'.2 i hi).1.trans (upd_ne (by omega)).symm, (hq'.2 i hi).2⟩
          · rw [su_ne (by omega)]
            exact ⟨hq'.1, fun i hi => ⟨(hq'.2 i hi).1.trans (upd_ne (by omega)).symm, (hq'.2 i hi).2⟩⟩
      · refine ⟨_, rfl, mI ok_X12_mark.1 rfl rfl rfl (s_X12_mark_0 g _ _ (nI s) p2 p3 ⟨fun _ => ⟨inN hs (by omega), ?_⟩, fun c => absurd c1' c⟩)⟩
        rw [nI_clamp (by omega), a2]
        exact ⟨fun _ => ⟨fun c => absurd (key.mpr c) c3, fun _ => ⟨_, rfl, rfl, hI⟩⟩, fun c => absurd (nI_pos' (by omega)) c⟩
end OPS4
