/-! small laws -/
theorem su_su (σ : vt_Sg) (k : Nat) (f f' : Nat → Int32) : su (su σ k f) k f' = su σ k f' := by
  funext a
  by_cases h : a = k
  · simp [su, h]
  · simp [su, h]
theorem su_self (σ : vt_Sg) (k : Nat) : su σ k (σ k) = σ := by
  funext a
  by_cases h : a = k
  · subst h; simp [su]
  · simp [su, h]
theorem upd_ne {f : Nat → Int32} {k j : Nat} {x : Int32} (h : j ≠ k) : upd f k x j = f j := if_neg h
theorem upd_same {f : Nat → Int32} {k : Nat} {x : Int32} : upd f k x k = x := if_pos rfl
/-- an int within 0 .. n is a number -/
theorem rng {x M : Int32} {n : Nat} (h0 : ¬ x < 0) (h1 : ¬ M < x) (hM : M.toInt = n) : ∃ j : Nat, j ≤ n ∧ x = nI j := nI_of2 hM h0 (Int32.not_lt.mp h1)
theorem rngL {x : Int32} {n : Nat} (h0 : ¬ x < 0) (h1 : ¬ nI n ≤ x) (hn : n < 2 ^ 31) : ∃ j : Nat, j < n ∧ x = nI j := by
  obtain ⟨j, hj, rfl⟩ := nI_of h0
  exact ⟨j, Nat.lt_of_not_le fun q => h1 (nI_le q hj), rfl⟩
theorem nI_inj {a b : Nat} (h : nI a = nI b) (ha : a < 2 ^ 31) (hb : b < 2 ^ 31) : a = b := (nI_eq ha hb).mp h
theorem nI_neNONE {a : Nat} (ha : a < 2 ^ 31) : ¬ nI a = (-1000000005) := fun h => nI_pos ha (by rw [h]; decide)
theorem nI_neM1 {a : Nat} (ha : a < 2 ^ 31) : ¬ nI a = (-1) := fun h => nI_pos ha (by rw [h]; decide)
theorem inN {j n : Nat} (h : j < n) (hn : n < 2 ^ 31) : vp_in (nI j) n := vp_in_nI h hn
/-! Arrays.fill -/
section FILL
variable {g : vt_GT} {σ : vt_Sg}
theorem l_fill {ka na : Nat} (hka : vt_ar ka 0 na) (hna : na < 2 ^ 31) (v : Int32) (P : Option Value → vt_Sg → Prop) (hP : ∀ f : Nat → Int32, (∀ j, j < na → f j = v) → (∀ j, na ≤ j → f j = σ ka j) → P none (su σ ka f)) :
    ∀ (m i : Nat) (f : Nat → Int32), i + m = na → (∀ j, j < i → f j = v) → (∀ j, na ≤ j → f j = σ ka j) → TT g (vt_R 0) 0 0 D_J7_fill_53178 none 5 [some (.ref (g.2.1 ka)), some (.int v), some (.int (nI i)), some (.int (nI na))] [] (su σ ka f) P := by
  intro m
  induction m with
  | zero =>
    intro i f hi h1 h2
    refine s_J7_fill_53178_5 g _ P ka na hka v (nI i) (nI na) ⟨fun _ => hP f (fun j hj => h1 j (by omega)) h2, fun c => absurd (nI_le (by omega) (by omega)) c⟩
  | succ m ih =>
    intro i f hi h1 h2
    refine s_J7_fill_53178_5 g _ P ka na hka v (nI i) (nI na) ⟨fun c => absurd c (nI_ge (by omega) hna), fun _ => ⟨inN (by omega) hna, ?_⟩⟩
    rw [su_su, su_same, nI_clamp (by omega), nI_1]
    refine ih (i + 1) _ (by omega) (fun j hj => ?_) (fun j hj => ?_)
    · by_cases e : j = i
      · subst e; exact upd_same
      · rw [upd_ne e]; exact h1 j (by omega)
    · rw [upd_ne (by omega)]; exact h2 j hj
theorem c_fill {ka na : Nat} (hka : vt_ar ka 0 na) (hna : na < 2 ^ 31) {v : Int32} (Φ : vt_Sg → Prop) (h : ∀ f : Nat → Int32, (∀ j, j < na → f j = v) → (∀ j, na ≤ j → f j = σ ka j) → Φ (su σ ka f)) : vt_Mv g 0 D_J7_fill_53178 [.ref (g.2.1 ka), .int v] σ Φ := by
  refine mV ok_J7_fill_53178.1 rfl rfl rfl (s_J7_fill_53178_0 g σ _ ka na hka v ?_)
  have l := l_fill (g := g) (σ := σ) hka hna v (fun w σ' => w = none ∧ Φ σ') (fun f h1 h2 => ⟨rfl, h f h1 h2⟩) na 0 (σ ka) (by omega) (fun j hj => absurd hj (by omega)) (fun _ _ => rfl)
  rw [su_self] at l
  exact l
theorem l_fillS {ka na : Nat} (hka : vt_ar ka 2 na) (hna : na < 2 ^ 31) (P : Option Value → vt_Sg → Prop) (hP : ∀ f : Nat → Int32, (∀ j, j < na → f j = 0) → (∀ j, na ≤ j → f j = σ ka j) → P none (su σ ka f)) :
    ∀ (m i : Nat) (f : Nat → Int32), i + m = na → (∀ j, j < i → f j = 0) → (∀ j, na ≤ j → f j = σ ka j) → TT g (vt_R 0) 0 0 D_J7_fill_fb410 none 5 [some (.ref (g.2.1 ka)), some (.int 0), some (.int (nI i)), some (.int (nI na))] [] (su σ ka f) P := by
  intro m
  induction m with
  | zero =>
    intro i f hi h1 h2
    refine s_J7_fill_fb410_5 g _ P ka na hka 0 (nI i) (nI na) ⟨fun _ => hP f (fun j hj => h1 j (by omega)) h2, fun c => absurd (nI_le (by omega) (by omega)) c⟩
  | succ m ih =>
    intro i f hi h1 h2
    refine s_J7_fill_fb410_5 g _ P ka na hka 0 (nI i) (nI na) ⟨fun c => absurd c (nI_ge (by omega) hna), fun _ => ⟨inN (by omega) hna, ?_⟩⟩
    rw [su_su, su_same, nI_clamp (by omega), nI_1]
    refine ih (i + 1) _ (by omega) (fun j hj => ?_) (fun j hj => ?_)
    · by_cases e : j = i
      · subst e; rw [upd_same]; decide
      · rw [upd_ne e]; exact h1 j (by omega)
    · rw [upd_ne (by omega)]; exact h2 j hj
theorem c_fillS {ka na : Nat} (hka : vt_ar ka 2 na) (hna : na < 2 ^ 31) (Φ : vt_Sg → Prop) (h : ∀ f : Nat → Int32, (∀ j, j < na → f j = 0) → (∀ j, na ≤ j → f j = σ ka j) → Φ (su σ ka f)) : vt_Mv g 0 D_J7_fill_fb410 [.ref (g.2.1 ka), .int 0] σ Φ := by
  refine mV ok_J7_fill_fb410.1 rfl rfl rfl (s_J7_fill_fb410_0 g σ _ ka na hka 0 ?_)
  have l := l_fillS (g := g) (σ := σ) hka hna (fun w σ' => w = none ∧ Φ σ') (fun f h1 h2 => ⟨rfl, h f h1 h2⟩) na 0 (σ ka) (by omega) (fun j hj => absurd hj (by omega)) (fun _ _ => rfl)
  rw [su_self] at l
  exact l
end FILL
/-! String constants -/
/-- the place of the first byte that is c, from place k on; -1: there is none -/
def ixF (c : Int32) : List Int32 → Nat → Int32
  | [], _ => -1
  | b :: l, k => if b = c then nI k else ixF c l (k + 1)
theorem vt_strs_ok : vt_strs.all (fun q => q.2.2.2.all (fun b => decide (((b &&& 255).toUInt32 % 65536).toInt32 = b) && decide (narrow .char (.int b) = .int b) && decide (¬ b < 0) && decide (b < 128)) && decide (q.2.2.2.length < 100)) = true := by decide +kernel
theorem strB {si : Nat} {q : String × Nat × String × List Int32} (h : vt_strs[si]? = some q) : q.2.2.2.length < 100 ∧ ∀ b ∈ q.2.2.2, ((b &&& 255).toUInt32 % 65536).toInt32 = b ∧ narrow .char (.int b) = .int b ∧ ¬ b < 0 ∧ b < 128 := by
  have h1 := List.all_eq_true.mp vt_strs_ok q (List.mem_of_getElem? h)
  simp only [Bool.and_eq_true, List.all_eq_true, decide_eq_true_eq] at h1
  refine ⟨h1.2, fun b hb => ?_⟩
  have := h1.1 b hb
  exact ⟨this.1.1.1, this.1.1.2, this.1.2, this.2⟩
section STRC
variable {g : vt_GT} {σ : vt_Sg} {si sk : Nat} {so tx : String} {bs : List Int32}
theorem c_length (hs : vt_strs[si]? = some (so, sk, tx, bs)) (Φ : Int32 → vt_Sg → Prop) (h : Φ (nI bs.length) σ) : vt_Mi g 1 D_J0_length_8abf5 [.ref (g.2.2.2.2.1 si)] σ Φ := by
  refine mI ok_J0_length_8abf5.1 rfl rfl rfl (s_J0_length_8abf5_0 g σ _ si so sk tx bs hs ?_)
  refine mI ok_J0_coder_7d493.1 rfl rfl rfl (s_J0_coder_7d493_0 g σ _ si so sk tx bs hs ⟨0, rfl, _, rfl, ?_⟩)
  rw [sb_shr0]
  exact h
theorem c_checkIx {p1 p2 : Int32} (q3 : Nat) (h0 : ¬ p1 < 0) (h1 : p1 < p2) (Φ : Int32 → vt_Sg → Prop) (h : Φ p1 σ) : vt_Mi g 0 D_J3_checkIndex_8e157 [.int p1, .int p2, .ref q3] σ Φ :=
  mI ok_J3_checkIndex_8e157.1 rfl rfl rfl (s_J3_checkIndex_8e157_0 g σ _ q3 p1 p2 ⟨fun c => absurd c h0, fun _ => ⟨fun _ => ⟨_, rfl, h⟩, fun c => absurd h1 c⟩⟩)
theorem c_checkIxN {p1 p2 : Int32} (h0 : ¬ p1 < 0) (h1 : p1 < p2) (Φ : Int32 → vt_Sg → Prop) (h : Φ p1 σ) : vt_Mi g 0 D_J3_checkIndex_8e157 [.int p1, .int p2, .null] σ Φ :=
  mI ok_J3_checkIndex_8e157.1 rfl rfl rfl (s_J3_checkIndex_8e157_0n g σ _ p1 p2 ⟨fun c => absurd c h0, fun _ => ⟨fun _ => ⟨_, rfl, h⟩, fun c => absurd h1 c⟩⟩)
theorem c_charAt (hs : vt_strs[si]? = some (so, sk, tx, bs)) {k : Nat} (hk : k < bs.length) (Φ : Int32 → vt_Sg → Prop) (h : Φ (bs.getD k 0) σ) : vt_Mi g 4 D_J0_charAt_5068e [.ref (g.2.2.2.2.1 si), .int (nI k)] σ Φ := by
  obtain ⟨hl, hb⟩ := strB hs
  have hl : bs.length < 100 := hl
  have hm : bs.getD k 0 ∈ bs := by
    rw [List.getD_eq_getElem?_getD, List.getElem?_eq_getElem hk]
    exact List.getElem_mem hk
  obtain ⟨e1, e2, -, -⟩ := hb _ hm
  refine mI ok_J0_charAt_5068e.1 rfl rfl rfl (s_J0_charAt_5068e_0 g σ _ si so sk tx bs hs (nI k) ?_)
  refine mI ok_J0_isLatin1_aae02.1 rfl rfl rfl (s_J0_isLatin1_aae02_0 g σ _ si so sk tx bs hs ⟨1, rfl, fun c => absurd c (by decide), fun _ => ?_⟩)
  refine mI ok_J1_charAt_3b067.1 rfl rfl rfl (s_J1_charAt_3b067_0 g σ _ si so sk tx bs hs (nI k) ?_)
  refine mV ok_J0_checkIndex_df160.1 rfl rfl rfl (s_J0_checkIndex_df160_0 g σ _ (nI k) (nI bs.length) (c_checkIxN (nI_pos (by omega)) (nI_lt hk (by omega)) _ ⟨rfl, inN hk (by omega), ?_⟩) (fun q1 => c_checkIx q1 (nI_pos (by omega)) (nI_lt hk (by omega)) _ ⟨rfl, inN hk (by omega), ?_⟩))
  · rw [nI_clamp (by omega), e1]
    exact ⟨e2, _, rfl, e2, _, rfl, h⟩
  · rw [nI_clamp (by omega), e1]
    exact ⟨e2, _, rfl, e2, _, rfl, h⟩
theorem l_indexOf (hs : vt_strs[si]? = some (so, sk, tx, bs)) {c : Int32} (h0 : ¬ c < 0) (h1 : ¬ 255 < c) (p1 p2 : Int32) (P : Option Value → vt_Sg → Prop) :
    ∀ (l : List Int32) (k : Nat), bs.drop k = l → k ≤ bs.length → P (some (.int (ixF c l k))) σ → TT g (vt_R 0) 0 0 D_J1_indexOfChar_4cfef none 7 [some (.ref (g.2.2.2.2.2 si)), some (.int p1), some (.int p2), some (.int (nI bs.length)), some (.int c.toInt8.toInt32), some (.int (nI k))] [] σ P := by
  obtain ⟨hl, hb⟩ := strB hs
  have hl : bs.length < 100 := hl
  obtain ⟨cn, hc, ec⟩ := rng h0 h1 (n := 255) rfl
  have key : ∀ b ∈ bs, (b = c.toInt8.toInt32 ↔ b = c) := by
    intro b hm
    obtain ⟨-, -, b0, b1⟩ := hb b hm
    obtain ⟨bn, hbn, eb⟩ := rng b0 (M := 127) (n := 127) (by intro q; rw [Int32.lt_iff_toInt_lt] at q b1; have : (127 : Int32).toInt = 127 := rfl; have : (128 : Int32).toInt = 128 := rfl; omega) rfl
    subst eb; subst ec
    clear hm hb b0 b1 h0 h1
    have : ∀ b, b ≤ 127 → ∀ c, c ≤ 255 → (nI b = (nI c).toInt8.toInt32 ↔ nI b = nI c) := by decide +kernel
    exact this bn hbn cn hc
  intro l
  induction l with
  | nil =>
    intro k hd hk h
    have hz : bs.length ≤ k := List.drop_eq_nil_iff.mp hd
    exact s_J1_indexOfChar_4cfef_7 g σ P si so sk tx bs hs p1 p2 (nI bs.length) _ (nI k) ⟨fun _ => h, fun q => absurd (nI_le hz (by omega)) q⟩
  | cons b l ih =>
    intro k hd hk h
    obtain ⟨a1, a2, a3, a4⟩ := sc_dropC hd
    refine s_J1_indexOfChar_4cfef_7 g σ P si so sk tx bs hs p1 p2 (nI bs.length) _ (nI k) ⟨fun q => absurd q (nI_ge a1 (by omega)), fun _ => ⟨inN a1 (by omega), ?_⟩⟩
    rw [nI_clamp (by omega), a2]
    refine ⟨fun q => ?_, fun q => ?_⟩
    · rw [nI_1]
      refine ih (k + 1) a3 (by omega) ?_
      rw [ixF, if_neg (fun z => q ((key b a4).mpr z))] at h
      exact h
    · rw [ixF, if_pos ((key b a4).mp q)] at h
      exact h
theorem ixF_none {c : Int32} : ∀ (l : List Int32) (k : Nat), (∀ b ∈ l, ¬ b = c) → ixF c l k = -1
  | [], _, _ => rfl
  | b :: l, k, h => by
    rw [ixF, if_neg (h b List.mem_cons_self)]
    exact ixF_none l (k + 1) (fun x hx => h x (List.mem_cons_of_mem _ hx))
theorem c_indexOf (hs : vt_strs[si]? = some (so, sk, tx, bs)) {c : Int32} (hne : 0 < bs.length) (Φ : Int32 → vt_Sg → Prop) (h : Φ (ixF c bs 0) σ) : vt_Mi g 6 D_J0_indexOf_0f7a4 [.ref (g.2.2.2.2.1 si), .int c] σ Φ := by
  obtain ⟨hl, hb⟩ := strB hs
  have hl : bs.length < 100 := hl
  refine mI ok_J0_indexOf_0f7a4.1 rfl rfl rfl (s_J0_indexOf_0f7a4_0 g σ _ si so sk tx bs hs c ?_)
  refine mI ok_J0_indexOf_7cf53.1 rfl rfl rfl (s_J0_indexOf_7cf53_0 g σ _ si so sk tx bs hs c 0 ?_)
  refine mI ok_J0_isLatin1_aae02.1 rfl rfl rfl (s_J0_isLatin1_aae02_0 g σ _ si so sk tx bs hs ⟨1, rfl, fun c => absurd c (by decide), fun _ => ?_⟩)
  refine c_length hs _ ?_
  refine mI ok_J1_indexOf_4cfef.1 rfl rfl rfl (s_J1_indexOf_4cfef_0 g σ _ si so sk tx bs hs c 0 (nI bs.length) ?_)
  have e0 : (if (0 : Int32) < 0 then (0 : Int32) else 0) = 0 := by decide
  have e1 : (if (Int32.ofNat bs.length) < nI bs.length then (Int32.ofNat bs.length) else nI bs.length) = nI bs.length := by
    show (if nI bs.length < nI bs.length then nI bs.length else nI bs.length) = nI bs.length
    split <;> rfl
  have bad : c < 0 ∨ 255 < c → ixF c bs 0 = -1 := fun q => ixF_none bs 0 (fun b hm e => by
    obtain ⟨-, -, b0, b1⟩ := hb b hm
    rcases q with q | q
    · exact b0 (by rw [e]; exact q)
    · rw [← e] at q
      rw [Int32.lt_iff_toInt_lt] at q b1
      have : (255 : Int32).toInt = 255 := rfl
      have : (128 : Int32).toInt = 128 := rfl
      omega)
  rw [e0, e1]
  refine mI ok_J1_canEncode_9a6ad.1 rfl rfl rfl (s_J1_canEncode_9a6ad_0 g σ _ c ⟨fun q => ⟨0, rfl, fun z => absurd rfl z, fun _ => ⟨_, rfl, _, rfl, _, rfl, ?_⟩⟩, fun h0 => ⟨fun q => ⟨0, rfl, fun z => absurd rfl z, fun _ => ⟨_, rfl, _, rfl, _, rfl, ?_⟩⟩, fun h1 => ⟨1, rfl, fun _ => ⟨fun _ => ?_, fun z => absurd (nI_lt hne (by omega)) z⟩, fun z => absurd z (by decide)⟩⟩⟩)
  · rw [bad (Or.inl q)] at h; exact h
  · rw [bad (Or.inr q)] at h; exact h
  · refine mI ok_J1_indexOfChar_4cfef.1 rfl rfl rfl (s_J1_indexOfChar_4cfef_0 g σ _ si so sk tx bs hs c 0 (nI bs.length) ?_)
    exact l_indexOf hs h0 h1 c 0 _ bs 0 rfl (by omega) ⟨_, rfl, _, rfl, _, rfl, _, rfl, h⟩
end STRC
