/-! LEASES: the component's next word -/
section LEXX
variable {g : vt_GT} {σ τ υ : vt_Sg} {t : Nat → Nat} {L pos fr to : Nat}
/-- the text from i on begins with these bytes -/
def mtc (t : Nat → Nat) : List Int32 → Nat → Bool
  | [], _ => true
  | b :: l, i => decide (nI (t i) = b) && mtc t l (i + 1)
def wmt (t : Nat → Nat) (bs : List Int32) (fr to : Nat) : Bool := decide (to = fr + bs.length) && mtc t bs fr
def baseB : List Int32 := [98, 97, 115, 101]
def turnB : List Int32 := [116, 117, 114, 110]
def leaveB : List Int32 := [108, 101, 97, 118, 101]
def tokL (t : Nat → Nat) (fr to : Nat) : Int32 := if to = fr + 1 ∧ ¬ ixF (nI (t fr)) namesB 0 < 0 then -4 else if wmt t baseB fr to = true then -5 else if wmt t turnB fr to = true then -6 else if wmt t leaveB fr to = true then -7 else -2
/-- the component's token of a word -/
def tok (t : Nat → Nat) (k : TK) : Int32 := if k.2.2 = 0 then -1 else if k.2.2 = 1 then tokL t k.1 k.2.1 else if k.2.2 = 2 then -3 else if k.2.2 = 3 then nI (t k.1) else -2
def dgv (t : Nat → Nat) (fr : Nat) : Nat → Int32
  | 0 => 0
  | i + 1 => dgv t fr i * 10 + nI (t (fr + i)) - 48
def tapX (τ : vt_Sg) (t : Nat → Nat) (L : Nat) : Prop := τ 107 0 = nI L ∧ ∀ i, i < L → τ 110 i = sx (t i)
theorem ch_ix : ∀ v, v < 256 → ((nI v).toUInt32 % 65536).toInt32 = nI v := by decide +kernel
theorem c_X8_reads (hL : L ≤ 132) (hT : tapX τ t L) (h6 : τ 107 6 = nI to) (h8 : τ 107 8 = nI fr) (h1 : fr ≤ to) (h2 : to ≤ L) (hl : ∀ j, fr ≤ j → j < to → isL (t j) = true) {si sk : Nat} {so tx : String} {bs : List Int32} (hs : vt_strs[si]? = some (so, sk, tx, bs)) (Φ : Int32 → vt_Sg → Prop) (h : Φ (ind (wmt t bs fr to)) τ) : vt_Mi g 5 D_X8_reads [.ref (g.2.1 107), .ref (g.2.2.2.2.1 si)] τ Φ := by
  obtain ⟨hb, _⟩ := strB hs
  have hb : bs.length < 100 := hb
  refine mI ok_X8_reads.1 rfl rfl rfl (s_X8_reads_0 g τ _ si so sk tx bs hs (c_length hs _ ?_))
  rw [h6, h8, pk_sub h1]
  refine ⟨fun c => ?_, fun c => ⟨_, rfl, ?_⟩⟩
  · have e : to - fr = bs.length := nI_inj c (by omega) (by omega)
    have ew : wmt t bs fr to = mtc t bs fr := by
      unfold wmt
      rw [decide_eq_true (show to = fr + bs.length by omega)]; rfl
    rw [ew] at h
    have key : ∀ (l : List Int32) (i : Nat), bs.drop i = l → i ≤ bs.length → Φ (ind (mtc t l (fr + i))) τ → TT g (vt_R 5) 0 0 D_X8_reads none 20 [some (.ref (g.2.1 107)), some (.ref (g.2.2.2.2.1 si)), some (.int (nI i))] [] τ (fun v σ' => ∃ r, v = some (Value.int r) ∧ Φ r σ') := by
      intro l
      induction l with
      | nil =>
        intro i hd hi H
        have hz : bs.length ≤ i := List.drop_eq_nil_iff.mp hd
        exact s_X8_reads_20 g τ _ si so sk tx bs hs (nI i) (c_length hs _ ⟨fun _ => ⟨_, rfl, H⟩, fun q => absurd (nI_le hz (by omega)) q⟩)
      | cons b l ih =>
        intro i hd hi H
        obtain ⟨a1, a2, a3, a4⟩ := sc_dropC hd
        refine s_X8_reads_20 g τ _ si so sk tx bs hs (nI i) (c_length hs _ ⟨fun q => absurd q (nI_ge a1 (by omega)), fun _ => ?_⟩)
        rw [h8, nI_add]
        refine ⟨inN (by omega) (by omega), c_charAt hs a1 _ ?_⟩
        have eb : τ 110 (fr + i) = nI (t (fr + i)) := by rw [hT.2 (fr + i) (by omega)]; exact sx_low _ (l_low (hl (fr + i) (by omega) (by omega)))
        rw [nI_clamp (by omega), eb, a2, nI_1]
        rw [mtc] at H
        refine ⟨fun c => ih (i + 1) a3 (by omega) ?_, fun c => ⟨_, rfl, ?_⟩⟩
        · rw [decide_eq_true c] at H; exact H
        · rw [decide_eq_false c] at H; exact H
    exact key bs 0 rfl (by omega) h
  · have : wmt t bs fr to = false := by
      unfold wmt
      rw [decide_eq_false (show ¬ to = fr + bs.length from fun z => c (by rw [z, Nat.add_sub_cancel_left]))]; rfl
    rw [this] at h; exact h
theorem c_X8_letters (hL : L ≤ 132) (ht : ∀ i, i < L → t i < 256) (hT : tapX τ t L) (h6 : τ 107 6 = nI to) (h8 : τ 107 8 = nI fr) (h1 : fr < to) (h2 : to ≤ L) (hl : ∀ j, fr ≤ j → j < to → isL (t j) = true) (Φ : Int32 → vt_Sg → Prop) (ha : tokL t fr to = -4 → Φ (-4) (su τ 107 (upd (τ 107) 9 (-(nI (t fr)))))) (hb : ¬ tokL t fr to = -4 → Φ (tokL t fr to) τ) : vt_Mi g 7 D_X8_lettersToken [.ref (g.2.1 107), .int (nI (t fr))] τ Φ := by
  refine mI ok_X8_lettersToken.1 rfl rfl rfl (s_X8_lettersToken_0 g τ _ (nI (t fr)) ?_)
  have rest : ¬ (to = fr + 1 ∧ ¬ ixF (nI (t fr)) namesB 0 < 0) → vt_Mi g 5 D_X8_reads [.ref (g.2.1 107), .ref (g.2.2.2.2.1 1)] τ (fun r3 σ2 => (r3 = 0 → vt_Mi g 5 D_X8_reads [.ref (g.2.1 107), .ref (g.2.2.2.2.1 2)] σ2 (fun r6 σ5 => (r6 = 0 → vt_Mi g 5 D_X8_reads [.ref (g.2.1 107), .ref (g.2.2.2.2.1 3)] σ5 (fun r9 σ8 => (r9 = 0 → ∃ r, some (Value.int (-2)) = some (Value.int r) ∧ Φ r σ8) ∧ (¬ r9 = 0 → ∃ r, some (Value.int (-7)) = some (Value.int r) ∧ Φ r σ8))) ∧ (¬ r6 = 0 → ∃ r, some (Value.int (-6)) = some (Value.int r) ∧ Φ r σ5))) ∧ (¬ r3 = 0 → ∃ r, some (Value.int (-5)) = some (Value.int r) ∧ Φ r σ2)) := by
    intro cn
    unfold tokL at hb
    rw [if_neg cn] at hb
    refine c_X8_reads hL hT h6 h8 (by omega) h2 hl (bs := baseB) rfl _ ⟨fun c => ?_, fun c => ?_⟩
    · rw [if_neg (by rw [(ind_b _).1 c]; decide)] at hb
      refine c_X8_reads hL hT h6 h8 (by omega) h2 hl (bs := turnB) rfl _ ⟨fun c => ?_, fun c => ?_⟩
      · rw [if_neg (by rw [(ind_b _).1 c]; decide)] at hb
        refine c_X8_reads hL hT h6 h8 (by omega) h2 hl (bs := leaveB) rfl _ ⟨fun c => ?_, fun c => ?_⟩
        · rw [if_neg (by rw [(ind_b _).1 c]; decide)] at hb
          exact ⟨_, rfl, hb (by decide)⟩
        · rw [if_pos ((ind_b _).2 c)] at hb
          exact ⟨_, rfl, hb (by decide)⟩
      · rw [if_pos ((ind_b _).2 c)] at hb
        exact ⟨_, rfl, hb (by decide)⟩
    · rw [if_pos ((ind_b _).2 c)] at hb
      exact ⟨_, rfl, hb (by decide)⟩
  rw [h6, h8, pk_sub (by omega)]
  refine ⟨fun c => rest (fun z => c (by rw [z.1, Nat.add_sub_cancel_left]; rfl)), fun c => ?_⟩
  have e1 : to - fr = 1 := nI_inj (b := 1) c (by omega) (by omega)
  rw [ch_ix (t fr) (ht fr (by omega))]
  refine c_indexOf (si := 0) (bs := namesB) rfl (by decide) _ ⟨fun c2 => rest (fun z => z.2 c2), fun c2 => ⟨_, rfl, ha ?_⟩⟩
  unfold tokL
  rw [if_pos ⟨by omega, c2⟩]
theorem c_X8_number (hL : L ≤ 132) (hT : tapX τ t L) (h6 : τ 107 6 = nI to) (h8 : τ 107 8 = nI fr) (h1 : fr < to) (h2 : to ≤ L) (hl : ∀ j, fr ≤ j → j < to → isD (t j) = true) (Φ : Int32 → vt_Sg → Prop) (ha : ¬ 5 < to - fr → Φ (-3) (su τ 107 (upd (τ 107) 9 (dgv t fr (to - fr))))) (hb : 5 < to - fr → Φ (-2) τ) : vt_Mi g 0 D_X8_numberToken [.ref (g.2.1 107)] τ Φ := by
  refine mI ok_X8_numberToken.1 rfl rfl rfl (s_X8_numberToken_0 g τ _ ?_)
  rw [h6, h8, pk_sub (by omega)]
  refine ⟨fun c => ?_, fun c => ⟨_, rfl, hb (Nat.lt_of_not_le (fun z => c (nI_le (b := 5) z (by omega))))⟩⟩
  have c : to - fr ≤ 5 := (nI_leI (b := 5) (by omega) (by omega)).mp c
  have ha := ha (by omega)
  have key : ∀ m i, i + m = to - fr → TT g (vt_R 0) 0 0 D_X8_numberToken none 26 [some (.ref (g.2.1 107)), some (.int (nI (fr + i)))] [] (su τ 107 (upd (τ 107) 9 (dgv t fr i))) (fun v σ' => ∃ r, v = some (Value.int r) ∧ Φ r σ') := by
    intro m
    induction m with
    | zero =>
      intro i hi
      have : i = to - fr := hi
      subst this
      refine s_X8_numberToken_26 g _ _ _ ?_
      rw [su_same, upd_ne (show 6 ≠ 9 by omega), h6]
      exact ⟨fun _ => ⟨_, rfl, ha⟩, fun c => absurd (nI_le (by omega) (by omega)) c⟩
    | succ m ih =>
      intro i hi
      have d := hl (fr + i) (by omega) (by omega)
      have eb : τ 110 (fr + i) = nI (t (fr + i)) := by rw [hT.2 (fr + i) (by omega)]; exact sx_low _ (by have := d_low d; omega)
      refine s_X8_numberToken_26 g _ _ _ ?_
      rw [su_same, upd_ne (show 6 ≠ 9 by omega), h6, upd_same, nI_clamp (by omega), su_ne (show 110 ≠ 107 by omega), eb, nI_1, su_su]
      refine ⟨fun c => absurd c (nI_ge (by omega) (by omega)), fun _ => ⟨inN (by omega) (by omega), ?_⟩⟩
      have uu : upd (upd (τ 107) 9 (dgv t fr i)) 9 (dgv t fr i * 10 + nI (t (fr + i)) - 48) = upd (τ 107) 9 (dgv t fr (i + 1)) := by
        funext j
        by_cases z : j = 9
        · subst z; rw [upd_same, upd_same]; rfl
        · rw [upd_ne z, upd_ne z, upd_ne z]
      rw [uu]
      exact ih (i + 1) (by omega)
  exact key (to - fr) 0 (by omega)
theorem l_advE (q : Nat → Bool) (k : Int32) (hL : L ≤ 132) (ht : ∀ i, i < L → t i < 256) (hq : (q = isL ∧ k = 0) ∨ (q = isD ∧ k = 1)) {w : Bool} (hp : pos ≤ L) (hfr : fr < L) (hT : tapX τ t L) (Φ : vt_Sg → Prop)
    (h : ∀ f : Nat → Int32, (∀ j, j ≠ 6 → j ≠ 7 → j ≠ 8 → j ≠ 9 → f j = τ 107 j) → f 6 = nI (scn q t (L - fr) fr) → f 8 = nI fr → f 7 = (if w = true ∧ fr = pos then -2 else if k = 0 then tokL t fr (scn q t (L - fr) fr) else if 5 < scn q t (L - fr) fr - fr then -2 else -3) → (k = 1 → ¬ 5 < scn q t (L - fr) fr - fr → ¬ (w = true ∧ fr = pos) → f 9 = dgv t fr (scn q t (L - fr) fr - fr)) → (k = 0 → tokL t fr (scn q t (L - fr) fr) = -4 → ¬ (w = true ∧ fr = pos) → f 9 = -(nI (t fr))) → Φ (su τ 107 f)) (hq0 : q (t fr) = true) :
    ∀ m i (f : Nat → Int32), i + m = L → fr ≤ i → (∀ j, fr ≤ j → j < i → q (t j) = true) → (∀ j, j ≠ 6 → j ≠ 8 → f j = τ 107 j) → f 6 = nI i → f 8 = nI fr → scn q t m i = scn q t (L - fr) fr → TT g (vt_R 8) 0 0 D_X8_advance none 131 [some (.ref (g.2.1 107)), some (.int (nI pos)), some (.int (ind w)), some (.int (nI (t fr))), some (.int k), none] [] (su τ 107 f) (fun v σ' => v = none ∧ Φ σ') := by
  have gt : fr < scn q t (L - fr) fr := by
    rw [show L - fr = (L - fr - 1) + 1 by omega, scn, if_pos hq0]
    have := (scn_b (t := t) (p := q) (L - fr - 1) (fr + 1)).1
    omega
  have le := (scn_b (t := t) (p := q) (L - fr) fr).2
  have al := scn_all (t := t) (p := q) (L - fr) fr
  generalize scn q t (L - fr) fr = e at *
  -- the token, once the end is found
  have fin : ∀ f : Nat → Int32, (∀ j, j ≠ 6 → j ≠ 8 → f j = τ 107 j) → f 6 = nI e → f 8 = nI fr →
      (ind w = 0 → (k = 0 → vt_Mi g 7 D_X8_lettersToken [.ref (g.2.1 107), .int (nI (t fr))] (su τ 107 f) (fun r5 σ4 => none = (none : Option Value) ∧ Φ (su σ4 107 (upd (σ4 107) 7 r5)))) ∧ (¬ k = 0 → vt_Mi g 0 D_X8_numberToken [.ref (g.2.1 107)] (su τ 107 f) (fun r7 σ6 => none = (none : Option Value) ∧ Φ (su σ6 107 (upd (σ6 107) 7 r7))))) ∧
      (¬ ind w = 0 → (¬ nI fr = nI pos → (k = 0 → vt_Mi g 7 D_X8_lettersToken [.ref (g.2.1 107), .int (nI (t fr))] (su τ 107 f) (fun r5 σ4 => none = (none : Option Value) ∧ Φ (su σ4 107 (upd (σ4 107) 7 r5)))) ∧ (¬ k = 0 → vt_Mi g 0 D_X8_numberToken [.ref (g.2.1 107)] (su τ 107 f) (fun r7 σ6 => none = (none : Option Value) ∧ Φ (su σ6 107 (upd (σ6 107) 7 r7))))) ∧ (nI fr = nI pos → none = (none : Option Value) ∧ Φ (su (su τ 107 f) 107 (upd f 7 (-2))))) := by
    intro f f0 f6 f8
    have pe : nI fr = nI pos ↔ fr = pos := nI_eq (by omega) (by omega)
    have T2 : tapX (su τ 107 f) t L := ⟨by rw [su_same, f0 0 (by omega) (by omega)]; exact hT.1, fun i hi => by rw [su_ne (by omega)]; exact hT.2 i hi⟩
    have both : ¬ (w = true ∧ fr = pos) → (k = 0 → vt_Mi g 7 D_X8_lettersToken [.ref (g.2.1 107), .int (nI (t fr))] (su τ 107 f) (fun r5 σ4 => none = (none : Option Value) ∧ Φ (su σ4 107 (upd (σ4 107) 7 r5)))) ∧ (¬ k = 0 → vt_Mi g 0 D_X8_numberToken [.ref (g.2.1 107)] (su τ 107 f) (fun r7 σ6 => none = (none : Option Value) ∧ Φ (su σ6 107 (upd (σ6 107) 7 r7)))) := by
      intro cn
      rw [if_neg cn] at h
      rcases hq with ⟨rfl, rfl⟩ | ⟨rfl, rfl⟩
      · refine ⟨fun _ => ?_, fun c => absurd rfl c⟩
        rw [if_pos rfl] at h
        refine c_X8_letters (τ := su τ 107 f) (to := e) hL ht T2 (by rw [su_same]; exact f6) (by rw [su_same]; exact f8) gt (by omega) al _ (fun z => ⟨rfl, ?_⟩) (fun z => ⟨rfl, ?_⟩)
        · rw [su_su, su_su, su_same, su_same]
          refine h _ (fun j a b c d => by rw [upd_ne b, upd_ne d]; exact f0 j a c) ?_ ?_ ?_ (fun y => absurd y (by decide)) (fun _ _ _ => ?_)
          · rw [upd_ne (by omega), upd_ne (by omega)]; exact f6
          · rw [upd_ne (by omega), upd_ne (by omega)]; exact f8
          · rw [upd_same, z]
          · rw [upd_ne (by omega), upd_same]
        · rw [su_su, su_same]
          refine h _ (fun j a b c d => by rw [upd_ne b]; exact f0 j a c) ?_ ?_ ?_ (fun y => absurd y (by decide)) (fun _ y => absurd y z)
          · rw [upd_ne (by omega)]; exact f6
          · rw [upd_ne (by omega)]; exact f8
          · rw [upd_same]
      · refine ⟨fun c => absurd c (by decide), fun _ => ?_⟩
        rw [if_neg (by decide)] at h
        refine c_X8_number (τ := su τ 107 f) (to := e) hL T2 (by rw [su_same]; exact f6) (by rw [su_same]; exact f8) gt (by omega) al _ (fun z => ⟨rfl, ?_⟩) (fun z => ⟨rfl, ?_⟩)
        · rw [su_su, su_su, su_same, su_same]
          refine h _ (fun j a b c d => by rw [upd_ne b, upd_ne d]; exact f0 j a c) ?_ ?_ ?_ (fun _ _ _ => ?_) (fun y => absurd y (by decide))
          · rw [upd_ne (by omega), upd_ne (by omega)]; exact f6
          · rw [upd_ne (by omega), upd_ne (by omega)]; exact f8
          · rw [upd_same, if_neg z]
          · rw [upd_ne (by omega), upd_same]
        · rw [su_su, su_same]
          refine h _ (fun j a b c d => by rw [upd_ne b]; exact f0 j a c) ?_ ?_ ?_ (fun _ y => absurd z y) (fun y => absurd y (by decide))
          · rw [upd_ne (by omega)]; exact f6
          · rw [upd_ne (by omega)]; exact f8
          · rw [upd_same, if_pos z]
    refine ⟨fun c => both (fun z => by rw [(ind_b w).1 c] at z; cases z.1), fun c => ⟨fun c2 => both (fun z => c2 (pe.mpr z.2)), fun c2 => ⟨rfl, ?_⟩⟩⟩
    have cy : w = true ∧ fr = pos := ⟨(ind_b w).2 c, pe.mp c2⟩
    rw [if_pos cy] at h
    rw [su_su]
    refine h _ (fun j a b c d => by rw [upd_ne b]; exact f0 j a c) ?_ ?_ ?_ (fun _ _ y => absurd cy y) (fun _ _ y => absurd cy y)
    · rw [upd_ne (by omega)]; exact f6
    · rw [upd_ne (by omega)]; exact f8
    · rw [upd_same]
  intro m
  induction m with
  | zero =>
    intro i f hi hfi hal f0 f6 f8 ee
    have iL : i = L := hi
    have ee : i = e := ee
    have f00 : f 0 = nI L := (f0 0 (by omega) (by omega)).trans hT.1
    obtain ⟨F1, F2⟩ := fin f f0 (by rw [f6, ee]) f8
    refine s_X8_advance_131 g _ _ _ _ _ _ ?_
    rw [su_same, f6, f00, f8, iL]
    exact ⟨fun _ => ⟨F1, F2⟩, fun c => absurd (nI_le (Nat.le_refl _) (by omega)) c⟩
  | succ m ih =>
    intro i f hi hfi hal f0 f6 f8 ee
    have f00 : f 0 = nI L := (f0 0 (by omega) (by omega)).trans hT.1
    have eb : τ 110 i = sx (t i) := hT.2 i (by omega)
    have tb := ht i (by omega)
    refine s_X8_advance_131 g _ _ _ _ _ _ ?_
    rw [su_same, f6, f00, f8, nI_clamp (by omega), su_ne (show 110 ≠ 107 by omega), eb, nI_1]
    have ix : vp_in (nI i) 132 := inN (by omega) (by omega)
    have go : q (t i) = true → TT g (vt_R 8) 0 0 D_X8_advance none 131 [some (.ref (g.2.1 107)), some (.int (nI pos)), some (.int (ind w)), some (.int (nI (t fr))), some (.int k), none] [] (su (su τ 107 f) 107 (upd f 6 (nI (i + 1)))) (fun v σ' => v = none ∧ Φ σ') := by
      intro c
      rw [su_su]
      rw [scn, if_pos c] at ee
      refine ih (i + 1) _ (by omega) (by omega) (fun j a b => ?_) (fun j a b => by rw [upd_ne a]; exact f0 j a b) upd_same (by rw [upd_ne (by omega)]; exact f8) ee
      by_cases z : j = i
      · subst z; exact c
      · exact hal j a (by omega)
    have st : ¬ q (t i) = true → i = e := fun c => by rw [scn, if_neg c] at ee; exact ee
    refine ⟨fun c => absurd c (nI_ge (by omega) (by omega)), fun _ => ?_⟩
    rcases hq with ⟨rfl, rfl⟩ | ⟨rfl, rfl⟩
    · have ql := sx_l (t i) tb
      refine ⟨fun _ => ⟨ix, fun c => go (ql.mp c), fun c => ?_⟩, fun c => absurd rfl c⟩
      obtain ⟨F1, F2⟩ := fin f f0 (by rw [f6, st (fun z => c (ql.mpr z))]) f8
      exact ⟨fun z => (F1 z).1 rfl, fun z => ⟨fun y => ((F2 z).1 y).1 rfl, (F2 z).2⟩⟩
    · have ql := sx_d (t i) tb
      refine ⟨fun c => absurd c (by decide), fun _ => ⟨ix, fun c => go (ql.mp c), fun c => ?_⟩⟩
      obtain ⟨F1, F2⟩ := fin f f0 (by rw [f6, st (fun z => c (ql.mpr z))]) f8
      exact ⟨fun z => (F1 z).2 (by decide), fun z => ⟨fun y => ((F2 z).1 y).2 (by decide), (F2 z).2⟩⟩
/-- the component's next word, from a blank on -/
theorem l_adv {w : Bool} (hL : L ≤ 132) (ht : ∀ i, i < L → t i < 256) (hT : tapX τ t L) (hp : pos ≤ L) (Φ : vt_Sg → Prop)
    (h : ∀ f : Nat → Int32, (∀ j, j ≠ 6 → j ≠ 7 → j ≠ 8 → j ≠ 9 → f j = τ 107 j) → f 6 = nI (nx t L w pos).2.1 → f 8 = nI (nx t L w pos).1 → f 7 = tok t (nx t L w pos) → ((nx t L w pos).2.2 = 2 → f 9 = dgv t (nx t L w pos).1 ((nx t L w pos).2.1 - (nx t L w pos).1)) → ((nx t L w pos).2.2 = 1 → tokL t (nx t L w pos).1 (nx t L w pos).2.1 = -4 → f 9 = -(nI (t (nx t L w pos).1))) → Φ (su τ 107 f)) :
    ∀ m i (f : Nat → Int32), i + m = L → (∀ j, j ≠ 6 → f j = τ 107 j) → f 6 = nI i → scn isB t m i = scn isB t (L - pos) pos → TT g (vt_R 8) 0 0 D_X8_advance none 20 [some (.ref (g.2.1 107)), some (.int (nI pos)), some (.int (ind w)), none, none, none] [] (su τ 107 f) (fun v σ' => v = none ∧ Φ σ') := by
  unfold nx at h
  generalize scn isB t (L - pos) pos = fr at *
  intro m
  induction m with
  | zero =>
    intro i f hi f0 f6 e
    have f00 : f 0 = nI L := (f0 0 (by omega)).trans hT.1
    have iL : i = L := hi
    have e : i = fr := e
    rw [if_pos (show fr = L by omega)] at h
    refine s_X8_advance_20 g _ _ _ _ ?_
    rw [su_same, f6, f00, iL]
    refine ⟨fun _ => ⟨fun c => absurd c (nI_nlt (Nat.le_refl _) (by omega)), fun _ => ⟨rfl, ?_⟩⟩, fun c => absurd (nI_le (Nat.le_refl _) (by omega)) c⟩
    rw [su_su, su_su]
    exact h _ (fun j a b c d => by rw [upd_ne b, upd_ne c]; exact f0 j a) (by rw [upd_ne (by omega), upd_ne (by omega), f6, iL]) (by rw [upd_ne (by omega), upd_same]) (by rw [upd_same]; rfl) (fun z => by cases z) (fun z => by cases z)
  | succ m ih =>
    intro i f hi f0 f6 e
    have f00 : f 0 = nI L := (f0 0 (by omega)).trans hT.1
    have eb : τ 110 i = sx (t i) := hT.2 i (by omega)
    have tb := ht i (by omega)
    have ix : vp_in (nI i) 132 := inN (by omega) (by omega)
    have lt : nI i < nI L := nI_lt (by omega) (by omega)
    have ql := nI_l' (t i) tb
    have qd := nI_d (t i) tb
    refine s_X8_advance_20 g _ _ _ _ ?_
    rw [su_same, f6, f00, nI_clamp (by omega), su_ne (show 110 ≠ 107 by omega), eb, sx_255 (t i) tb, nI_1]
    refine ⟨fun c => absurd c (nI_ge (by omega) (by omega)), fun _ => ⟨ix, fun cb => ⟨fun _ => ?_, fun c => absurd lt c⟩, fun cb => ?_⟩⟩
    · rw [scn, if_neg (fun z => cb ((sx_32 (t i) tb).mpr z))] at e
      subst e
      rw [if_neg (show ¬ i = L by omega)] at h
      have g8 : ∀ j, j ≠ 6 → j ≠ 8 → upd f 8 (nI i) j = τ 107 j := fun j a b => by rw [upd_ne b]; exact f0 j a
      have g6 : upd f 8 (nI i) 6 = nI i := by rw [upd_ne (by omega)]; exact f6
      refine ⟨fun c => ?_, fun c => ⟨fun c2 => ?_, fun c2 => ⟨rfl, ?_⟩⟩⟩
      · have c1 := qd.mp c
        have nl : ¬ isL (t i) = true := fun z => by rw [ld_no _ tb z] at c1; cases c1
        rw [if_neg nl, if_pos c1] at h
        rw [su_su]
        refine l_advE isD 1 hL ht (Or.inr ⟨rfl, rfl⟩) hp (by omega) hT Φ (fun f' a1 a2 a3 a4 a5 a6 => h f' a1 a2 a3 ?_ (fun z => ?_) (fun z => ?_)) c1 (L - i) i _ (by omega) (Nat.le_refl _) (fun j a b => absurd a (by omega)) g8 g6 upd_same rfl
        · rw [a4]
          unfold tok
          by_cases cw : w = true ∧ i = pos
          · rw [if_pos cw, if_pos (Or.inl cw)]; rfl
          · by_cases c5 : 5 < scn isD t (L - i) i - i
            · rw [if_neg cw, if_neg (by decide), if_pos c5, if_pos (Or.inr c5)]; rfl
            · rw [if_neg cw, if_neg (by decide), if_neg c5, if_neg (show ¬ ((w = true ∧ i = pos) ∨ 5 < scn isD t (L - i) i - i) from fun z => z.elim cw c5)]; rfl
        · have z : (if (w = true ∧ i = pos) ∨ 5 < scn isD t (L - i) i - i then 4 else 2) = 2 := z
          by_cases cw : (w = true ∧ i = pos) ∨ 5 < scn isD t (L - i) i - i
          · rw [if_pos cw] at z; cases z
          · exact a5 rfl (fun y => cw (Or.inr y)) (fun y => cw (Or.inl y))
        · have z : (if (w = true ∧ i = pos) ∨ 5 < scn isD t (L - i) i - i then 4 else 2) = 1 := z
          rcases ite_or (c := (w = true ∧ i = pos) ∨ 5 < scn isD t (L - i) i - i) (a := 4) (b := 2) with y | y <;> rw [y] at z <;> cases z
      · have c1 := ql.mp c2
        rw [if_pos c1] at h
        rw [su_su]
        refine l_advE isL 0 hL ht (Or.inl ⟨rfl, rfl⟩) hp (by omega) hT Φ (fun f' a1 a2 a3 a4 a5 a6 => h f' a1 a2 a3 ?_ (fun z => ?_) (fun z y => ?_)) c1 (L - i) i _ (by omega) (Nat.le_refl _) (fun j a b => absurd a (by omega)) g8 g6 upd_same rfl
        · rw [a4]
          unfold tok
          by_cases cw : w = true ∧ i = pos
          · rw [if_pos cw, if_pos cw]; rfl
          · rw [if_neg cw, if_neg cw, if_pos rfl]; rfl
        · have z : (if w = true ∧ i = pos then 4 else 1) = 2 := z
          rcases ite_or (c := w = true ∧ i = pos) (a := 4) (b := 1) with y | y <;> rw [y] at z <;> cases z
        · have z : (if w = true ∧ i = pos then 4 else 1) = 1 := z
          by_cases cw : w = true ∧ i = pos
          · rw [if_pos cw] at z; cases z
          · exact a6 rfl y cw
      · rw [if_neg (fun z => c2 (ql.mpr z)), if_neg (fun z => c (qd.mpr z))] at h
        rw [su_su, su_su, su_su]
        exact h _ (fun j a b c d => by rw [upd_ne b, upd_ne a, upd_ne c]; exact f0 j a) (by rw [upd_ne (by omega), upd_same]) (by rw [upd_ne (by omega), upd_ne (by omega), upd_same]) (by rw [upd_same]; rfl) (fun z => by cases z) (fun z => by cases z)
    · rw [scn, if_pos ((sx_32 (t i) tb).mp cb)] at e
      rw [su_su]
      exact ih (i + 1) _ (by omega) (fun j a => by rw [upd_ne a]; exact f0 j a) upd_same e
theorem c_X8_advance {w : Bool} (hL : L ≤ 132) (ht : ∀ i, i < L → t i < 256) (hT : tapX τ t L) (h6 : τ 107 6 = nI pos) (h7 : (-3 < τ 107 7 → w = false) ∧ (¬ -3 < τ 107 7 → w = true)) (hp : pos ≤ L) (Φ : vt_Sg → Prop)
    (h : ∀ f : Nat → Int32, (∀ j, j ≠ 6 → j ≠ 7 → j ≠ 8 → j ≠ 9 → f j = τ 107 j) → f 6 = nI (nx t L w pos).2.1 → f 8 = nI (nx t L w pos).1 → f 7 = tok t (nx t L w pos) → ((nx t L w pos).2.2 = 2 → f 9 = dgv t (nx t L w pos).1 ((nx t L w pos).2.1 - (nx t L w pos).1)) → ((nx t L w pos).2.2 = 1 → tokL t (nx t L w pos).1 (nx t L w pos).2.1 = -4 → f 9 = -(nI (t (nx t L w pos).1))) → Φ (su τ 107 f)) : vt_Mv g 8 D_X8_advance [.ref (g.2.1 107)] τ Φ := by
  refine mV ok_X8_advance.1 rfl rfl rfl (s_X8_advance_0 g τ _ ?_)
  have start := l_adv (g := g) hL ht hT hp Φ h (L - pos) pos (τ 107) (by omega) (fun j a => rfl) h6 rfl
  rw [su_self] at start
  rw [h6]
  exact ⟨fun c => by rw [h7.1 c] at start; exact start, fun c => by rw [h7.2 c] at start; exact start⟩
end LEXX
