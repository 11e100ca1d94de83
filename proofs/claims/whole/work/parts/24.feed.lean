/-! OPERATIONS: feed -/
section OPS8
variable {g : vt_GT} {σ : vt_Sg} {p1 p2 p3 : Int32}
/-- a byte read unsigned (from kit/laws/BITS.to-paste) -/
theorem bp_b (x : Int32) : x.toInt8.toInt32 &&& 255 = x &&& 255 := by
  apply Int32.toBitVec_inj.mp
  rw [Int32.toBitVec_and, Int32.toBitVec_and, Int8.toBitVec_toInt32, Int32.toBitVec_toInt8]
  apply BitVec.eq_of_getLsbD_eq
  intro i hi
  rw [BitVec.getLsbD_and, BitVec.getLsbD_and]
  have hm : ∀ i < 32, 8 ≤ i → (255 : Int32).toBitVec.getLsbD i = false := by decide
  rcases Nat.lt_or_ge i 8 with z | z
  · rw [BitVec.getLsbD_signExtend, BitVec.getLsbD_signExtend, if_pos z, if_pos hi]
    simp only [z, hi, decide_true, Bool.true_and]
  · rw [hm i hi z]; simp
theorem byte_of (z : Int32) : ∃ v : Nat, v < 256 ∧ z &&& 255 = nI v ∧ z.toInt8.toInt32 = (nI v).toInt8.toInt32 := by
  have e : z &&& 255 = nI (z.toBitVec.toNat % 2 ^ 8) := pk_and z 8 rfl
  refine ⟨z.toBitVec.toNat % 2 ^ 8, Nat.mod_lt _ (by decide), e, ?_⟩
  refine (sc_eq (b := z.toInt8.toInt32) ?_ (Nat.mod_lt _ (by decide))).mpr ?_
  · simp
  · rw [bp_b, e]
/-- the shifts of a word's four bytes -/
def sh8 (i : Nat) : Int32 := 24 - 8 * nI i
theorem sh8_s : ∀ i, i < 4 → sh8 i + (-8) = sh8 (i + 1) ∧ ¬ sh8 i < 0 := by decide
theorem c_append {n : Nat} (hn : σ 107 0 = nI n) (h4 : n + 4 ≤ 132) (Φ : vt_Sg → Prop) (h : ∀ σ' : vt_Sg, (∀ k, k ≠ 107 → k ≠ 110 → σ' k = σ k) → σ' 107 0 = nI (n + 4) → (∀ j, j < n → σ' 110 j = σ 110 j) → (∀ i, i < 4 → σ' 110 (n + i) = (p1 >>> (sh8 i &&& 31)).toInt8.toInt32) → Φ σ') : vt_Mv g 0 D_X8_append [.ref (g.2.1 107), .int p1] σ Φ := by
  refine mV ok_X8_append.1 rfl rfl rfl (s_X8_append_0 g σ _ p1 ?_)
  refine lpS 4 (fun i τ => TT g (vt_R 0) 0 0 D_X8_append none 3 [some (.ref (g.2.1 107)), some (.int p1), some (.int (sh8 i))] [] τ _) (fun i τ => (∀ k, k ≠ 107 → k ≠ 110 → τ k = σ k) ∧ τ 107 0 = nI (n + i) ∧ (∀ j, j < n → τ 110 j = σ 110 j) ∧ ∀ q, q < i → τ 110 (n + q) = (p1 >>> (sh8 q &&& 31)).toInt8.toInt32) ?_ ?_ 0 σ (by omega) ⟨fun _ _ _ => rfl, hn, fun _ _ => rfl, fun q hq => absurd hq (by omega)⟩
  · rintro τ ⟨a1, a2, a3, a4⟩
    exact s_X8_append_3 g τ _ _ _ ⟨fun _ => ⟨rfl, h τ a1 a2 a3 a4⟩, fun c => absurd (by decide) c⟩
  · rintro i τ hi ⟨a1, a2, a3, a4⟩ ih
    obtain ⟨b1, b2⟩ := sh8_s i hi
    refine s_X8_append_3 g τ _ _ _ ⟨fun c => absurd c b2, fun _ => ?_⟩
    rw [a2, b1, pk_vb, nI_clamp (by omega), nI_1]
    refine ⟨fun c => absurd (show nI 132 ≤ nI (n + i) from c) (nI_ge (by omega) (by omega)), fun _ => ⟨inN (by omega) (by omega), ih _ ⟨fun k h1 h2 => ?_, rfl, fun j hj => ?_, fun q hq => ?_⟩⟩⟩
    · rw [su_ne h1, su_ne h2]; exact a1 k h1 h2
    · show upd (τ 110) (n + i) _ j = _
      rw [upd_ne (by omega)]; exact a3 j hj
    · show upd (τ 110) (n + i) _ (n + q) = _
      by_cases e : q = i
      · subst e; exact upd_same
      · rw [upd_ne (by omega)]; exact a4 q (by omega)
def wd (a b c : Int32) (k : Nat) : Int32 := if 4 ≤ k then (if 8 ≤ k then c else b) else a
theorem sh_mod : ∀ i, i < 12 → (24 : Int32) - 8 * (nI i - nI i / 4 * 4) = sh8 (i % 4) := by decide
theorem l_mfeed {n : Nat} (hn : σ 168 4 = nI n) (h12 : n + 12 ≤ 132) (P : Option Value → vt_Sg → Prop) (h : ∀ σ' : vt_Sg, (∀ k, k ≠ 168 → k ≠ 171 → σ' k = σ k) → σ' 168 4 = nI (n + 12) → (∀ f, f ≠ 4 → σ' 168 f = σ 168 f) → (∀ j, j < n → σ' 171 j = σ 171 j) → (∀ i, i < 12 → σ' 171 (n + i) = (wd p1 p2 p3 i >>> (sh8 (i % 4) &&& 31)) &&& 255) → P (some (.int (nI (n + 12)))) σ') :
    TT g (vt_R 0) 0 0 D_X12_feed none 19 [some (.ref (g.2.1 168)), some (.int p1), some (.int p2), some (.int p3), some (.int 0), none] [] σ P := by
  refine lpS 12 (fun i τ => TT g (vt_R 0) 0 0 D_X12_feed none 19 [some (.ref (g.2.1 168)), some (.int p1), some (.int p2), some (.int p3), some (.int (nI i)), none] [] τ P) (fun i τ => (∀ k, k ≠ 168 → k ≠ 171 → τ k = σ k) ∧ τ 168 4 = nI (n + i) ∧ (∀ f, f ≠ 4 → τ 168 f = σ 168 f) ∧ (∀ j, j < n → τ 171 j = σ 171 j) ∧ ∀ q, q < i → τ 171 (n + q) = (wd p1 p2 p3 q >>> (sh8 (q % 4) &&& 31)) &&& 255) ?_ ?_ 0 σ (by omega) ⟨fun _ _ _ => rfl, hn, fun _ _ => rfl, fun _ _ => rfl, fun q hq => absurd hq (by omega)⟩
  · rintro τ ⟨a1, a2, a3, a4, a5⟩
    refine s_X12_feed_19 g τ _ _ _ _ _ ⟨fun _ => ?_, fun c => absurd (by decide) c⟩
    rw [a2]
    exact h τ a1 a2 a3 a4 a5
  · rintro i τ hi ⟨a1, a2, a3, a4, a5⟩ ih
    have go : ∀ w : Int32, w = wd p1 p2 p3 i → vp_in (nI (n + i)) 132 ∧ TT g (vt_R 0) 0 0 D_X12_feed none 19 [some (.ref (g.2.1 168)), some (.int p1), some (.int p2), some (.int p3), some (.int (nI (i + 1))), none] [] (su (su τ 171 (upd (τ 171) (n + i) ((w >>> (sh8 (i % 4) &&& 31)) &&& 255))) 168 (upd (τ 168) 4 (nI (n + i + 1)))) P := by
      intro w ew
      refine ⟨inN (by omega) (by omega), ih _ ⟨fun k h1 h2 => ?_, rfl, fun f hf => ?_, fun j hj => ?_, fun q hq => ?_⟩⟩
      · rw [su_ne h1, su_ne h2]; exact a1 k h1 h2
      · show upd (τ 168) 4 _ f = _
        rw [upd_ne hf]; exact a3 f hf
      · show upd (τ 171) (n + i) _ j = _
        rw [upd_ne (by omega)]; exact a4 j hj
      · show upd (τ 171) (n + i) _ (n + q) = _
        by_cases e : q = i
        · subst e; rw [upd_same, ew]
        · rw [upd_ne (by omega)]; exact a5 q (by omega)
    refine s_X12_feed_19 g τ _ _ _ _ _ ⟨fun c => absurd (show nI 12 ≤ nI i from c) (nI_ge hi (by omega)), fun _ => ?_⟩
    rw [a2, sh_mod i hi, nI_clamp (by omega), nI_1, nI_1]
    refine ⟨fun c1 => ⟨fun c2 => go _ ?_, fun c2 => go _ ?_⟩, fun c1 => go _ ?_⟩
    · have q1 : 4 ≤ i := (nI_leI (a := 4) (by omega) (by omega)).mp c1
      have q2 : 8 ≤ i := (nI_leI (a := 8) (by omega) (by omega)).mp c2
      rw [wd, if_pos q1, if_pos q2]
    · have q1 : 4 ≤ i := (nI_leI (a := 4) (by omega) (by omega)).mp c1
      have q2 : ¬ 8 ≤ i := fun q => c2 (show nI 8 ≤ nI i from nI_le q (by omega))
      rw [wd, if_pos q1, if_neg q2]
    · have q1 : ¬ 4 ≤ i := fun q => c1 (show nI 4 ≤ nI i from nI_le q (by omega))
      rw [wd, if_neg q1]
theorem op_feed (hI : Inv σ) : vt_Mi g 1 D_X11_feed [.ref (g.2.1 0), .int p1, .int p2, .int p3] σ (fun r σ1 => vt_Mi g 0 D_X12_feed [.ref (g.2.1 168), .int p1, .int p2, .int p3] σ1 (fun r' σ2 => r = r' ∧ Inv σ2)) := by
  obtain ⟨hA, hi, ⟨n, hn, e1, e2, hb⟩, hw, hs⟩ := id hI
  refine mI ok_X11_feed.1 rfl rfl rfl (s_X11_feed_0 g σ _ p1 p2 p3 ⟨fun c1 => ?_, fun c1 => ?_⟩)
  · have c1' := c1
    rw [e1] at c1
    have h12 : n + 12 ≤ 132 := (nI_leI (a := n + 12) (b := 132) (by omega) (by omega)).mp (by rw [← nI_add]; exact c1)
    refine c_append e1 (by omega) _ (fun τ1 f1 z1 k1 b1 => c_append z1 (by omega) _ (fun τ2 f2 z2 k2 b2 => c_append z2 (by omega) _ (fun τ3 f3 z3 k3 b3 => ⟨_, rfl, mI ok_X12_feed.1 rfl rfl rfl (s_X12_feed_0 g _ _ p1 p2 p3 ⟨fun _ => ?_, fun c => ?_⟩)⟩)))
    · have fr : ∀ k, k ≠ 107 → k ≠ 110 → τ3 k = σ k := fun k a b => (f3 k a b).trans ((f2 k a b).trans (f1 k a b))
      refine l_mfeed (show τ3 168 4 = nI n by rw [fr 168 (by omega) (by omega)]; exact e2) h12 _ (fun υ g1 g2 g3 g4 g5 => ⟨_, rfl, z3, ?_, ?_, ?_, ?_, ?_⟩)
      · rw [g1 169 (by omega) (by omega), fr 169 (by omega) (by omega)]
        exact hA.cg (fun k hk => (g1 _ (by omega) (by omega)).trans (fr _ (by omega) (by omega)))
      · rw [g1 0 (by omega) (by omega), fr 0 (by omega) (by omega), g3 2 (by omega), fr 168 (by omega) (by omega), g1 170 (by omega) (by omega), fr 170 (by omega) (by omega)]
        exact hi.cg (fun k hk => (g1 _ (by omega) (by omega)).trans (fr _ (by omega) (by omega)))
      · rw [g1 107 (by omega) (by omega), g1 110 (by omega) (by omega)]
        refine ⟨n + 12, h12, z3, g2, fun i hi => ?_⟩
        by_cases q : i < n
        · rw [g4 i q, fr 171 (by omega) (by omega), k3 i (by omega), k2 i (by omega), k1 i q]
          exact hb i q
        · obtain ⟨j, hj, rfl⟩ : ∃ j, j < 12 ∧ i = n + j := ⟨i - n, by omega, by omega⟩
          rw [g5 j hj]
          have eb : τ3 110 (n + j) = (wd p1 p2 p3 j >>> (sh8 (j % 4) &&& 31)).toInt8.toInt32 := by
            by_cases j4 : j < 4
            · rw [k3 _ (by omega), k2 _ (by omega), b1 j j4, wd, if_neg (by omega), show j % 4 = j by omega]
            · by_cases j8 : j < 8
              · rw [k3 _ (by omega), show n + j = n + 4 + (j - 4) by omega, b2 (j - 4) (by omega), wd, if_pos (by omega), if_neg (by omega), show j % 4 = j - 4 by omega]
              · rw [show n + j = n + 4 + 4 + (j - 8) by omega, b3 (j - 8) (by omega), wd, if_pos (by omega), if_pos (by omega), show j % 4 = j - 8 by omega]
          obtain ⟨v, hv, v1, v2⟩ := byte_of (wd p1 p2 p3 j >>> (sh8 (j % 4) &&& 31))
          exact ⟨v, hv, v1, eb.trans v2⟩
      · rw [g1 0 (by omega) (by omega), fr 0 (by omega) (by omega), g3 6 (by omega), fr 168 (by omega) (by omega), g1 167 (by omega) (by omega), fr 167 (by omega) (by omega), g1 172 (by omega) (by omega), fr 172 (by omega) (by omega)]
        exact hw
      · rw [g1 115 (by omega) (by omega), fr 115 (by omega) (by omega), g1 173 (by omega) (by omega), fr 173 (by omega) (by omega), g1 113 (by omega) (by omega), fr 113 (by omega) (by omega), g1 114 (by omega) (by omega), fr 114 (by omega) (by omega), g1 174 (by omega) (by omega), fr 174 (by omega) (by omega)]
        exact hs
    · rw [f3 168 (by omega) (by omega), f2 168 (by omega) (by omega), f1 168 (by omega) (by omega), e2, ← e1] at c
      exact absurd c1' c
  · exact ⟨_, rfl, mI ok_X12_feed.1 rfl rfl rfl (s_X12_feed_0 g _ _ p1 p2 p3 ⟨fun c => absurd (by rw [e1, ← e2]; exact c) c1, fun _ => ⟨_, rfl, rfl, hI⟩⟩)⟩
end OPS8
