/-! OPERATIONS: copy, lay -/
section OPS5
variable {g : vt_GT} {σ : vt_Sg} {p1 p2 p3 p4 p5 : Int32}
theorem cpy_0 {f c : Nat → Int32} {sp dp : Nat} : va_cpy f c sp dp 0 = c := funext fun j => if_neg (by omega)
theorem cpy_1 {f c : Nat → Int32} {sp dp i : Nat} : upd (va_cpy f c sp dp i) (dp + i) (f (sp + i)) = va_cpy f c sp dp (i + 1) := by
  funext j
  unfold upd va_cpy
  by_cases e : j = dp + i
  · subst e
    rw [if_pos rfl, if_pos (by omega), show sp + (dp + i - dp) = sp + i by omega]
  · rw [if_neg e]
    by_cases h : dp ≤ j ∧ j < dp + i
    · rw [if_pos h, if_pos (by omega)]
    · rw [if_neg h, if_neg (by omega)]
theorem cmp_pos {a m n : Nat} (ha : a < 2 ^ 31) (hm : m < 2 ^ 31) (hn : n ≤ 16) : (0 < lg_cmp ((nI a).toInt64 + (nI m).toInt64) (nI n).toInt64 ↔ n < a + m) ∧ (lg_cmp ((nI a).toInt64 + (nI m).toInt64) (nI n).toInt64 ≤ 0 ↔ ¬ n < a + m) := by
  rw [nI_l ha, nI_l hm, nI_l (by omega), lN_add]
  have e : lg_cmp (lN (a + m)) (lN n) = if n < a + m then 1 else if a + m = n then 0 else -1 := by
    show (if lN n < lN (a + m) then (1 : Int32) else if lN (a + m) = lN n then 0 else -1) = _
    by_cases h1 : n < a + m
    · rw [if_pos ((pk_lLT (by omega) (by omega)).mpr h1), if_pos h1]
    · rw [if_neg (fun q => h1 ((pk_lLT (by omega) (by omega)).mp q)), if_neg h1]
      by_cases h2 : a + m = n
      · rw [h2, if_pos rfl, if_pos rfl]
      · rw [if_neg (fun q => h2 ((pk_lEQ (by omega) (by omega)).mp q)), if_neg h2]
  rw [e]
  by_cases h1 : n < a + m
  · rw [if_pos h1]
    exact ⟨⟨fun _ => h1, fun _ => by decide⟩, ⟨fun q => absurd q (by decide), fun q => absurd h1 q⟩⟩
  · rw [if_neg h1]
    have z : ¬ 0 < (if a + m = n then (0 : Int32) else -1) ∧ (if a + m = n then (0 : Int32) else -1) ≤ 0 := by
      by_cases h2 : a + m = n
      · rw [if_pos h2]; exact ⟨by decide, by decide⟩
      · rw [if_neg h2]; exact ⟨by decide, by decide⟩
    exact ⟨⟨fun q => absurd q z.1, fun q => absurd q h1⟩, ⟨fun _ => h1, fun _ => z.2⟩⟩
theorem reach_iff {n : Nat} (hn : n ≤ 16) (h0 : ¬ p2 < 0) (h1 : ¬ p5 < 0) : (¬ nI n < p2 ∧ ¬ nI n - p2 < p5) ↔ ∃ a m : Nat, p2 = nI a ∧ p5 = nI m ∧ a + m ≤ n := by
  constructor
  · rintro ⟨b1, b2⟩
    obtain ⟨a, ha, rfl⟩ := rng h0 b1 (n := n) (nI_toInt (by omega))
    rw [pk_sub ha] at b2
    obtain ⟨m, hm, rfl⟩ := rng h1 b2 (n := n - a) (nI_toInt (by omega))
    exact ⟨a, m, rfl, rfl, by omega⟩
  · rintro ⟨a, m, rfl, rfl, h⟩
    refine ⟨nI_nlt (by omega) (by omega), ?_⟩
    rw [pk_sub (by omega)]
    exact nI_nlt (by omega) (by omega)
theorem ix16 (s a i : Nat) : (16 : Int32) * nI s + nI a + nI i = nI (16 * s + a + i) := by
  show nI 16 * nI s + nI a + nI i = _
  rw [pk_mul, nI_add, nI_add]
theorem l_mcopy1 {s t a b m : Nat} (hs : s < 2) (ha : a + m ≤ 16) (P : Option Value → vt_Sg → Prop)
    (h : TT g (vt_R 1) 0 0 D_X12_copy none 135 [some (.ref (g.2.1 168)), some (.int (nI s)), some (.int (nI a)), some (.int (nI t)), some (.int (nI b)), some (.int (nI m)), some (.int 0)] [] (su σ 181 (va_cpy (σ 174) (σ 181) (16 * s + a) 0 m)) P) :
    TT g (vt_R 1) 0 0 D_X12_copy none 98 [some (.ref (g.2.1 168)), some (.int (nI s)), some (.int (nI a)), some (.int (nI t)), some (.int (nI b)), some (.int (nI m)), some (.int 0)] [] σ P := by
  have key := lpD m (fun i => TT g (vt_R 1) 0 0 D_X12_copy none 98 [some (.ref (g.2.1 168)), some (.int (nI s)), some (.int (nI a)), some (.int (nI t)), some (.int (nI b)), some (.int (nI m)), some (.int (nI i))] [] (su σ 181 (va_cpy (σ 174) (σ 181) (16 * s + a) 0 i)) P) ?_ ?_
  · rw [cpy_0, su_self] at key
    exact key
  · exact s_X12_copy_98 g _ P _ _ _ _ _ _ ⟨fun _ => h, fun c => absurd (nI_le (Nat.le_refl _) (by omega)) c⟩
  · intro i hi ih
    refine s_X12_copy_98 g _ P _ _ _ _ _ _ ⟨fun c => absurd c (nI_ge hi (by omega)), fun _ => ?_⟩
    have e1 : su σ 181 (va_cpy (σ 174) (σ 181) (16 * s + a) 0 i) 174 = σ 174 := rfl
    rw [ix16, nI_clamp (by omega), nI_clamp (by omega), e1, su_same, su_su, nI_1]
    have e2 := cpy_1 (f := σ 174) (c := σ 181) (sp := 16 * s + a) (dp := 0) (i := i)
    rw [show 0 + i = i by omega] at e2
    rw [e2]
    exact ⟨inN (by omega) (by omega), inN (by omega) (by omega), ih⟩
theorem l_mcopy2 {s t a b m : Nat} (hs : t < 2) (ha : b + m ≤ 16) (P : Option Value → vt_Sg → Prop)
    (h : P (some (.int (nI m))) (su σ 174 (va_cpy (σ 181) (σ 174) 0 (16 * t + b) m))) :
    TT g (vt_R 1) 0 0 D_X12_copy none 135 [some (.ref (g.2.1 168)), some (.int (nI s)), some (.int (nI a)), some (.int (nI t)), some (.int (nI b)), some (.int (nI m)), some (.int 0)] [] σ P := by
  have key := lpD m (fun i => TT g (vt_R 1) 0 0 D_X12_copy none 135 [some (.ref (g.2.1 168)), some (.int (nI s)), some (.int (nI a)), some (.int (nI t)), some (.int (nI b)), some (.int (nI m)), some (.int (nI i))] [] (su σ 174 (va_cpy (σ 181) (σ 174) 0 (16 * t + b) i)) P) ?_ ?_
  · rw [cpy_0, su_self] at key
    exact key
  · exact s_X12_copy_135 g _ P _ _ _ _ _ _ ⟨fun _ => h, fun c => absurd (nI_le (Nat.le_refl _) (by omega)) c⟩
  · intro i hi ih
    refine s_X12_copy_135 g _ P _ _ _ _ _ _ ⟨fun c => absurd c (nI_ge hi (by omega)), fun _ => ?_⟩
    have e1 : su σ 174 (va_cpy (σ 181) (σ 174) 0 (16 * t + b) i) 181 = σ 181 := rfl
    rw [ix16, nI_clamp (n := i) (by omega), nI_clamp (by omega), e1, su_same, su_su, nI_1]
    have e2 := cpy_1 (f := σ 181) (c := σ 174) (sp := 0) (dp := 16 * t + b) (i := i)
    rw [show 0 + i = i by omega] at e2
    rw [e2]
    exact ⟨inN (by omega) (by omega), inN (by omega) (by omega), ih⟩
theorem op_copy (hI : Inv σ) : vt_Mi g 1 D_X11_copy [.ref (g.2.1 0), .int p1, .int p2, .int p3, .int p4, .int p5] σ (fun r σ1 => vt_Mi g 1 D_X12_copy [.ref (g.2.1 168), .int p1, .int p2, .int p3, .int p4, .int p5] σ1 (fun r' σ2 => r = r' ∧ Inv σ2)) := by
  obtain ⟨hA, hi, ht, hw, hsh⟩ := id hI
  refine mI ok_X11_copy.1 rfl rfl rfl (s_X11_copy_0 g σ _ p1 p2 p3 p4 p5 ⟨fun c1 => ⟨fun c3 => ?_, fun c3 => ⟨_, rfl, mI ok_X12_copy.1 rfl rfl rfl (s_X12_copy_0 g _ _ p1 p2 p3 p4 p5 ⟨fun _ => ⟨fun c => absurd (sh_is.mpr c) c3, fun _ => ⟨_, rfl, rfl, hI⟩⟩, fun c => absurd (sh_is.mp c1) c⟩)⟩⟩, fun c1 => ⟨_, rfl, mI ok_X12_copy.1 rfl rfl rfl (s_X12_copy_0 g _ _ p1 p2 p3 p4 p5 ⟨fun c => absurd (sh_is.mpr c) c1, fun _ => ⟨_, rfl, rfl, hI⟩⟩)⟩⟩)
  have c1' := sh_is.mp c1
  have c3' := sh_is.mp c3
  obtain ⟨s, hs, rfl⟩ := sh_nat c1
  obtain ⟨t, hts, rfl⟩ := sh_nat c3
  have hqs := sheet_iff.mp hsh s hs
  have hqt := sheet_iff.mp hsh t hts
  rw [nI_clamp (n := s) (by omega), nI_clamp (n := t) (by omega)]
  have is : vp_in (nI s) 2 := inN hs (by omega)
  have it : vp_in (nI t) 2 := inN hts (by omega)
  rcases sh_sz hqs with ⟨a1, a2, a3, a4⟩ | ⟨n, hn, a1, a2, a3, a4, a5⟩
  · refine ⟨is, fun _ => ⟨_, rfl, mI ok_X12_copy.1 rfl rfl rfl (s_X12_copy_0 g _ _ (nI s) p2 (nI t) p4 p5 ⟨fun _ => ⟨fun _ => ⟨is, ?_⟩, fun c => absurd c3' c⟩, fun c => absurd c1' c⟩)⟩, fun c => absurd a1 c⟩
    rw [nI_clamp (n := s) (by omega)]
    exact ⟨fun _ => ⟨_, rfl, rfl, hI⟩, fun c => absurd a4 c⟩
  · refine ⟨is, fun c => absurd c a3, fun _ => ⟨it, ?_⟩⟩
    rcases sh_sz hqt with ⟨b1, b2, b3, b4⟩ | ⟨k, hk, b1, b2, b3, b4, b5⟩
    · refine ⟨fun _ => ⟨_, rfl, mI ok_X12_copy.1 rfl rfl rfl (s_X12_copy_0 g _ _ (nI s) p2 (nI t) p4 p5 ⟨fun _ => ⟨fun _ => ⟨is, ?_⟩, fun c => absurd c3' c⟩, fun c => absurd c1' c⟩)⟩, fun c => absurd b1 c⟩
      rw [nI_clamp (n := s) (by omega), nI_clamp (n := t) (by omega)]
      exact ⟨fun c => absurd c a5, fun _ => ⟨it, fun c => absurd c b3, fun _ => ⟨_, rfl, rfl, hI⟩⟩⟩
    · refine ⟨fun c => absurd c b3, fun _ => ?_⟩
      rw [a1, b1]
      have bad : ¬ ((¬ p2 < 0 ∧ ¬ p5 < 0 ∧ ¬ nI n < p2 ∧ ¬ nI n - p2 < p5) ∧ (¬ p4 < 0 ∧ ¬ p5 < 0 ∧ ¬ nI k < p4 ∧ ¬ nI k - p4 < p5)) → ∃ r : Int32, some (Value.int (-1000000013)) = some (.int r) ∧ vt_Mi g 1 D_X12_copy [.ref (g.2.1 168), .int (nI s), .int p2, .int (nI t), .int p4, .int p5] σ (fun r' σ2 => r = r' ∧ Inv σ2) := by
        intro hb
        refine ⟨_, rfl, mI ok_X12_copy.1 rfl rfl rfl (s_X12_copy_0 g _ _ (nI s) p2 (nI t) p4 p5 ⟨fun _ => ⟨fun _ => ⟨is, ?_⟩, fun c => absurd c3' c⟩, fun c => absurd c1' c⟩)⟩
        rw [nI_clamp (n := s) (by omega), nI_clamp (n := t) (by omega), a2, b2]
        refine ⟨fun c => absurd c (nI_pos (by omega)), fun _ => ⟨it, fun _ => ⟨fun _ => ⟨_, rfl, rfl, hI⟩, fun d1 => ⟨fun _ => ⟨_, rfl, rfl, hI⟩, fun d2 => ⟨fun _ => ⟨_, rfl, rfl, hI⟩, fun d3 => ?_⟩⟩⟩, fun c => absurd (nI_pos' (by omega)) c⟩⟩
        obtain ⟨m, hm, rfl⟩ := nI_of d1
        obtain ⟨a, ha, rfl⟩ := nI_of d2
        obtain ⟨b, hbb, rfl⟩ := nI_of d3
        refine ⟨fun _ => ⟨_, rfl, rfl, hI⟩, fun d4 => ⟨fun d5 => ?_, fun _ => ⟨_, rfl, rfl, hI⟩⟩⟩
        have d4' : ¬ n < a + m := fun q => d4 (((cmp_pos ha hm hn).1).mpr q)
        have d5' := ((cmp_pos hbb hm hk).2).mp d5
        have u1 := (reach_iff (p2 := nI a) (p5 := nI m) hn d2 d1).mpr ⟨a, m, rfl, rfl, by omega⟩
        have u2 := (reach_iff (p2 := nI b) (p5 := nI m) hk d3 d1).mpr ⟨b, m, rfl, rfl, by omega⟩
        exact absurd ⟨⟨d2, d1, u1.1, u1.2⟩, d3, d1, u2.1, u2.2⟩ hb
      refine ⟨fun c4 => ⟨fun c5 => ?_, fun c5 => bad (fun q => c5 q.2)⟩, fun c4 => bad (fun q => c4 q.1)⟩
      obtain ⟨a, m, rfl, rfl, ham⟩ := (reach_iff hn c4.1 c4.2.1).mp c4.2.2
      obtain ⟨b, m', rfl, em, hbm⟩ := (reach_iff hk c5.1 c5.2.1).mp c5.2.2
      have hmm : m = m' := nI_inj em (by omega) (Nat.lt_of_not_le fun q => by
        have : m' ≤ k := by omega
        omega)
      subst hmm
      simp (disch := omega) only [nI_clamp]
      refine ⟨⟨c4.1, c5.1, c4.2.1, by omega, by omega, fun i hi => (hqs.2 (a + i) (by omega)).2⟩, _, rfl, mI ok_X12_copy.1 rfl rfl rfl (s_X12_copy_0 g _ _ (nI s) (nI a) (nI t) (nI b) (nI m) ⟨fun _ => ⟨fun _ => ⟨is, ?_⟩, fun c => absurd c3' c⟩, fun c => absurd c1' c⟩)⟩
      rw [nI_clamp (n := s) (by omega), nI_clamp (n := t) (by omega)]
      simp (disch := omega) only [su_ne]
      rw [a2, b2]
      refine ⟨fun c => absurd c (nI_pos (by omega)), fun _ => ⟨it, fun _ => ⟨fun c => absurd c c4.2.1, fun _ => ⟨fun c => absurd c c4.1, fun _ => ⟨fun c => absurd c c5.1, fun _ => ⟨fun c => absurd (((cmp_pos (by omega) (by omega) hn).1).mp c) (by omega), fun _ => ⟨fun _ => ?_, fun c => absurd (((cmp_pos (by omega) (by omega) hk).2).mpr (by omega)) c⟩⟩⟩⟩⟩, fun c => absurd (nI_pos' (by omega)) c⟩⟩
      refine l_mcopy1 hs (by omega) _ (l_mcopy2 hts (by omega) _ ⟨_, rfl, rfl, ?_, ?_, ?_, ?_, sheet_iff.mpr (fun s' hs' => ?_)⟩)
      · simp (disch := omega) only [su_ne]
        exact hA.cg (fun k hk => by simp (disch := omega) only [su_ne])
      · simp (disch := omega) only [su_ne]
        exact hi.cg (fun k hk => by simp (disch := omega) only [su_ne])
      · simp (disch := omega) only [su_ne]
        exact ht
      · simp (disch := omega) only [su_ne]
        exact hw
      · have hq' := sheet_iff.mp hsh s' hs'
        simp (disch := omega) only [su_ne, su_same]
        have inner : ∀ i, i < m → va_cpy (σ 174) (σ 181) (16 * s + a) 0 m (0 + i) = σ 174 (16 * s + (a + i)) := fun i hi => by
          rw [pk_cpy_in (by omega) (by omega)]
          exact congrArg (σ 174) (by omega)
        by_cases e : s' = t
        · subst e
          rw [su_same]
          refine ⟨hq'.1, fun j hj => ?_⟩
          dsimp only
          by_cases h2 : b ≤ j ∧ j < b + m
          · rw [pk_cpy_in h2.1 h2.2, pk_cpy_in (by omega) (by omega), show 16 * s' + j - (16 * s' + b) = j - b by omega, inner _ (by omega)]
            exact hqs.2 (a + (j - b)) (by omega)
          · rw [pk_cpy_out (by omega), pk_cpy_out (by omega)]
            exact hq'.2 j hj
        · rw [su_ne (by omega)]
          refine ⟨hq'.1, fun j hj => ?_⟩
          dsimp only
          rw [pk_cpy_out (by omega)]
          exact hq'.2 j hj
end OPS5
