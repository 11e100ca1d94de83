/-! MIXES: the search itself, in its own words -/
section MIXP
variable {so ne : Nat → Int32} {A Q : Nat → Option Nat} {ns n m p s : Nat} {w : Int32}
def bt (x : Int32) (j : Nat) : Bool := x.toBitVec.getLsbD j
/-- x is the set of those below 12 of which F is true -/
def BS (x : Int32) (F : Nat → Prop) : Prop := ∀ j, j < 32 → (bt x j = true ↔ j < 12 ∧ F j)
theorem bt_or (x y : Int32) (j : Nat) : bt (x ||| y) j = (bt x j || bt y j) := by
  unfold bt; rw [Int32.toBitVec_or, BitVec.getLsbD_or]
theorem bt_and (x y : Int32) (j : Nat) : bt (x &&& y) j = (bt x j && bt y j) := by
  unfold bt; rw [Int32.toBitVec_and, BitVec.getLsbD_and]
theorem bt_m1 : ∀ j, j < 32 → bt (-1) j = true := by decide +kernel
theorem bt_not (x : Int32) {j : Nat} (h : j < 32) : bt (x ^^^ (-1)) j = !bt x j := by
  have := bt_m1 j h
  unfold bt at *
  rw [Int32.toBitVec_xor, BitVec.getLsbD_xor, this]
  cases x.toBitVec.getLsbD j <;> rfl
theorem bt_one : ∀ s, s < 12 → ∀ j, j < 32 → bt (1 <<< (nI s &&& 31)) j = decide (j = s) := by decide +kernel
theorem BS_0 : BS 0 (fun _ => False) := fun j hj => by
  have : ∀ j, j < 32 → bt 0 j = false := by decide +kernel
  rw [this j hj]
  exact ⟨fun h => absurd h (by decide), fun h => h.2.elim⟩
theorem BS.cg {x : Int32} {F G : Nat → Prop} (h : BS x F) (hg : ∀ j, j < 12 → (F j ↔ G j)) : BS x G := fun j hj => (h j hj).trans ⟨fun q => ⟨q.1, (hg j q.1).mp q.2⟩, fun q => ⟨q.1, (hg j q.1).mpr q.2⟩⟩
theorem BS.add {x : Int32} {F : Nat → Prop} (h : BS x F) (hs : s < 12) : BS (x ||| (1 <<< (nI s &&& 31))) (fun j => F j ∨ j = s) := fun j hj => by
  rw [bt_or, bt_one s hs j hj, Bool.or_eq_true, h j hj, decide_eq_true_iff]
  constructor
  · rintro (⟨a, b⟩ | a)
    · exact ⟨a, Or.inl b⟩
    · exact ⟨by omega, Or.inr a⟩
  · rintro ⟨a, b | b⟩
    · exact Or.inl ⟨a, b⟩
    · exact Or.inr b
theorem BS.sub {x y : Int32} {F G : Nat → Prop} (h : BS x F) (k : BS y G) : BS (x &&& (y ^^^ (-1))) (fun j => F j ∧ ¬ G j) := fun j hj => by
  rw [bt_and, bt_not _ hj, Bool.and_eq_true, Bool.not_eq_true', h j hj]
  have := k j hj
  constructor
  · rintro ⟨⟨a, b⟩, c⟩
    exact ⟨a, b, fun z => by rw [this.mpr ⟨a, z⟩] at c; cases c⟩
  · rintro ⟨a, b, c⟩
    refine ⟨⟨a, b⟩, ?_⟩
    cases e : bt y j with
    | false => rfl
    | true => exact absurd (this.mp e).2 c
theorem BS.num {x : Int32} {F : Nat → Prop} (h : BS x F) : ∃ k : Nat, k < 4096 ∧ x = nI k ∧ ∀ j, j < 12 → (k.testBit j = true ↔ F j) := by
  refine ⟨x.toBitVec.toNat, ?_, ?_, fun j hj => ?_⟩
  · refine Nat.lt_pow_two_of_testBit (n := 12) _ (fun j hj => ?_)
    cases e : x.toBitVec.toNat.testBit j with
    | false => rfl
    | true =>
      rcases Nat.lt_or_ge j 32 with q | q
      · exact absurd ((h j q).mp e).1 (by omega)
      · have : x.toBitVec.getLsbD j = false := BitVec.getLsbD_of_ge _ _ q
        exact absurd (this.symm.trans e) (by decide)
  · apply Int32.toBitVec_inj.mp
    show _ = BitVec.ofNat 32 _
    rw [BitVec.ofNat_toNat, BitVec.setWidth_eq]
  · have := h j (by omega)
    exact ⟨fun e => (this.mp e).2, fun e => this.mpr ⟨hj, e⟩⟩
theorem sm_ix : ∀ k, k < 12 → ((nI k &&& 31).toBitVec.smod 32).toNat = k := by decide +kernel
theorem BS.shr0 {x : Int32} {F : Nat → Prop} (h : BS x F) (hs : s < 12) (e : x >>> (nI s &&& 31) = 0) : ∀ j, s ≤ j → j < 12 → ¬ F j := by
  obtain ⟨k, k1, rfl, k2⟩ := h.num
  intro j h1 h2 f
  rw [pk_shrN (by omega) _ s (sm_ix s hs)] at e
  have z : k / 2 ^ s = 0 := by
    rcases Nat.eq_zero_or_pos (k / 2 ^ s) with q | q
    · exact q
    · exact absurd e (nI_ne0 q (Nat.lt_of_le_of_lt (Nat.div_le_self _ _) (by omega)))
  have lt : k < 2 ^ s := by
    rcases Nat.lt_or_ge k (2 ^ s) with q | q
    · exact q
    · have := Nat.div_pos q (Nat.two_pow_pos s); omega
  have := Nat.testBit_lt_two_pow (Nat.lt_of_lt_of_le lt (Nat.pow_le_pow_right (by omega) h1))
  rw [(k2 j h2).mpr f] at this
  cases this
theorem BS.bit {x : Int32} {F : Nat → Prop} (h : BS x F) (hs : s < 12) : ((x >>> (nI s &&& 31)) &&& 1 = 0) ↔ ¬ F s := by
  obtain ⟨k, k1, rfl, k2⟩ := h.num
  have l : k / 2 ^ s < 2 ^ 31 := Nat.lt_of_le_of_lt (Nat.div_le_self _ _) (by omega)
  rw [pk_shrN (by omega) _ s (sm_ix s hs), pk_andN (m := 1) (by omega) 1 (by decide), ← k2 s hs, Nat.testBit_eq_decide_div_mod_eq, decide_eq_true_iff]
  have : k / 2 ^ s % 2 ^ 1 < 2 := Nat.mod_lt _ (by omega)
  rcases Nat.lt_or_ge 0 (k / 2 ^ s % 2 ^ 1) with q | q
  · exact ⟨fun e => absurd e (nI_ne0 q (by omega)), fun e => absurd (show k / 2 ^ s % 2 = 1 by omega) e⟩
  · have z : k / 2 ^ s % 2 ^ 1 = 0 := by omega
    rw [z]
    exact ⟨fun _ => by omega, fun _ => rfl⟩
/-- how far apart -/
def dst (p q : Nat) : Nat := (p - q) + (q - p)
theorem apt_d : ∀ p, p < 12 → ∀ q, q < 12 → apt (nI p) (nI q) = nI (dst p q) := by decide +kernel
theorem dst_lt {p q : Nat} (hp : p < 12) (hq : q < 12) : dst p q < 12 := by unfold dst; omega
def rvl (so ne : Nat → Int32) (a c d : Nat) : Bool := decide (so a = so c) && decide (¬ (if ne a < ne c then ne c else ne a) < nI d)
theorem mx_sym (x y : Int32) : (if x < y then y else x) = (if y < x then x else y) := by
  by_cases h : x < y
  · rw [if_pos h, if_neg (fun z => Int32.lt_irrefl (Int32.lt_trans h z))]
  · by_cases k : y < x
    · rw [if_neg h, if_pos k]
    · rw [if_neg h, if_neg k]
      exact Int32.le_antisymm (Int32.not_lt.mp k) (Int32.not_lt.mp h)
theorem rvl_sym (a c d : Nat) : rvl so ne a c d = rvl so ne c a d := by
  unfold rvl
  rw [mx_sym (ne a) (ne c)]
  congr 1
  exact decide_eq_decide.mpr ⟨Eq.symm, Eq.symm⟩
theorem brk_d (a c : Nat) {p q : Nat} (hp : p < 12) (hq : q < 12) : brk so ne a (nI p) c (nI q) = rvl so ne a c (dst p q) := by
  unfold brk rvl
  rw [apt_d p hp q hq]
/-- shop s may be put to place p -/
def mayP (so ne : Nat → Int32) (ns : Nat) (A : Nat → Option Nat) (p s : Nat) : Prop := s < ns ∧ A s = none ∧ (∀ o, A o ≠ some p) ∧ ∀ o q, A o = some q → rvl so ne s o (dst p q) = false
noncomputable def may (so ne : Nat → Int32) (ns : Nat) (A : Nat → Option Nat) (p s : Nat) : Bool := @decide (mayP so ne ns A p s) (Classical.propDecidable _)
theorem may_t : may so ne ns A p s = true ↔ mayP so ne ns A p s := by unfold may; exact @decide_eq_true_iff _ (Classical.propDecidable _)
theorem may_f (h : ¬ mayP so ne ns A p s) : may so ne ns A p s = false := by
  cases e : may so ne ns A p s with
  | false => rfl
  | true => exact absurd (may_t.mp e) h
/-- tries left, worth, many, the row -/
abbrev StM := Nat × Int32 × Int32 × Option (Nat → Option Nat)
def cmpS (Q : Nat → Option Nat) (w m : Int32) (st : StM) : StM := if st.2.1 < w ∨ (w = st.2.1 ∧ ¬ st.2.2.1 ≤ m) then (st.1, w, m, some Q) else st
def lpF (f : Nat → StM → Bool × StM) (b : Nat → Bool) : Nat → Nat → StM → Bool × StM
  | _, 0, st => (true, st)
  | i, k + 1, st => if b i = true then (if st.1 = 0 then (false, st) else if (f i (st.1 - 1, st.2)).1 = true then lpF f b (i + 1) k (f i (st.1 - 1, st.2)).2 else (false, (f i (st.1 - 1, st.2)).2)) else lpF f b (i + 1) k st
theorem lpF_none {f : Nat → StM → Bool × StM} {b : Nat → Bool} : ∀ k i st, (∀ j, i ≤ j → j < i + k → b j = false) → lpF f b i k st = (true, st)
  | 0, _, _, _ => rfl
  | k + 1, i, st, h => by
    rw [lpF, if_neg (by rw [h i (by omega) (by omega)]; decide)]
    exact lpF_none k (i + 1) st (fun j h1 h2 => h j (by omega) (by omega))
def pF (my : (Nat → Option Nat) → Nat → Nat → Bool) (wt : Nat → Nat → Int32) : Nat → (Nat → Option Nat) → (Nat → Option Nat) → Int32 → Nat → StM → Bool × StM
  | 0, _, Q, w, m, st => (true, cmpS Q w (nI m) st)
  | n + 1, A, Q, w, m, st => if (pF my wt n A Q w m st).1 = true then lpF (fun s => pF my wt n (upd0 A s (some (11 - n))) (upd0 Q (11 - n) (some s)) (w + wt s (11 - n)) (m + 1)) (my A (11 - n)) 0 12 (pF my wt n A Q w m st).2 else (false, (pF my wt n A Q w m st).2)
section PF
variable {my : (Nat → Option Nat) → Nat → Nat → Bool} {wt : Nat → Nat → Int32} {st : StM}
theorem pF_s (h : (pF my wt n A Q w m st).1 = true) : pF my wt (n + 1) A Q w m st = lpF (fun s => pF my wt n (upd0 A s (some (11 - n))) (upd0 Q (11 - n) (some s)) (w + wt s (11 - n)) (m + 1)) (my A (11 - n)) 0 12 (pF my wt n A Q w m st).2 := by rw [pF, if_pos h]
theorem pF_stop {i : Nat} (h : (pF my wt i A Q w m st).1 = false) : ∀ k, (pF my wt (i + k) A Q w m st).1 = false
  | 0 => h
  | k + 1 => by
    have := pF_stop h k
    rw [← Nat.add_assoc, pF, if_neg (by rw [this]; decide)]
theorem cmpS_br (h : st.2.2.2.isSome = true) : (cmpS Q w w st).2.2.2.isSome = true := by
  unfold cmpS
  by_cases c : st.2.1 < w ∨ (w = st.2.1 ∧ ¬ st.2.2.1 ≤ w)
  · rw [if_pos c]; rfl
  · rw [if_neg c]; exact h
theorem cmpS_br' {v : Int32} (h : st.2.2.2.isSome = true) : (cmpS Q w v st).2.2.2.isSome = true := by
  unfold cmpS
  by_cases c : st.2.1 < w ∨ (w = st.2.1 ∧ ¬ st.2.2.1 ≤ v)
  · rw [if_pos c]; rfl
  · rw [if_neg c]; exact h
theorem lpF_br {f : Nat → StM → Bool × StM} {b : Nat → Bool} (hf : ∀ s st, st.2.2.2.isSome = true → (f s st).2.2.2.2.isSome = true) : ∀ k i (st : StM), st.2.2.2.isSome = true → (lpF f b i k st).2.2.2.2.isSome = true
  | 0, _, _, h => h
  | k + 1, i, st, h => by
    rw [lpF]
    by_cases c : b i = true
    · rw [if_pos c]
      by_cases c2 : st.1 = 0
      · rw [if_pos c2]; exact h
      · rw [if_neg c2]
        have h2 := hf i (st.1 - 1, st.2) h
        by_cases c3 : (f i (st.1 - 1, st.2)).1 = true
        · rw [if_pos c3]; exact lpF_br hf k (i + 1) _ h2
        · rw [if_neg c3]; exact h2
    · rw [if_neg c]; exact lpF_br hf k (i + 1) st h
theorem pF_br : ∀ n A Q w m (st : StM), st.2.2.2.isSome = true → (pF my wt n A Q w m st).2.2.2.2.isSome = true
  | 0, _, Q, w, m, st, h => cmpS_br' h
  | n + 1, A, Q, w, m, st, h => by
    have h2 := pF_br n A Q w m st h
    rw [pF]
    by_cases c : (pF my wt n A Q w m st).1 = true
    · rw [if_pos c]
      exact lpF_br (fun s st h => pF_br n _ _ _ _ st h) 12 0 _ h2
    · rw [if_neg c]; exact h2
theorem pF_br1 (hw : st.2.1 < w) : ∀ n, (pF my wt n A Q w m st).2.2.2.2.isSome = true
  | 0 => by
    show (cmpS Q w (nI m) st).2.2.2.isSome = true
    unfold cmpS
    rw [if_pos (Or.inl hw)]; rfl
  | n + 1 => by
    have h2 := pF_br1 hw n
    rw [pF]
    by_cases c : (pF my wt n A Q w m st).1 = true
    · rw [if_pos c]
      exact lpF_br (fun s st h => pF_br n _ _ _ _ st h) 12 0 _ h2
    · rw [if_neg c]; exact h2
theorem lpF_le {f : Nat → StM → Bool × StM} {b : Nat → Bool} (hf : ∀ s st, (f s st).2.1 ≤ st.1) : ∀ k i (st : StM), (lpF f b i k st).2.1 ≤ st.1
  | 0, _, _ => Nat.le_refl _
  | k + 1, i, st => by
    rw [lpF]
    by_cases c : b i = true
    · rw [if_pos c]
      by_cases c2 : st.1 = 0
      · rw [if_pos c2]; exact Nat.le_refl _
      · rw [if_neg c2]
        have h2 := hf i (st.1 - 1, st.2)
        have h2 : (f i (st.1 - 1, st.2)).2.1 ≤ st.1 - 1 := h2
        by_cases c3 : (f i (st.1 - 1, st.2)).1 = true
        · rw [if_pos c3]; exact Nat.le_trans (lpF_le hf k (i + 1) _) (by omega)
        · rw [if_neg c3]; show (f i (st.1 - 1, st.2)).2.1 ≤ st.1; omega
    · rw [if_neg c]; exact lpF_le hf k (i + 1) st
theorem pF_le : ∀ n A Q w m (st : StM), (pF my wt n A Q w m st).2.1 ≤ st.1
  | 0, _, Q, w, m, st => by
    show (cmpS Q w (nI m) st).1 ≤ st.1
    unfold cmpS
    by_cases c : st.2.1 < w ∨ (w = st.2.1 ∧ ¬ st.2.2.1 ≤ nI m)
    · rw [if_pos c]; exact Nat.le_refl _
    · rw [if_neg c]; exact Nat.le_refl _
  | n + 1, A, Q, w, m, st => by
    have h2 := pF_le n A Q w m st
    rw [pF]
    by_cases c : (pF my wt n A Q w m st).1 = true
    · rw [if_pos c]
      exact Nat.le_trans (lpF_le (fun s st => pF_le n _ _ _ _ st) 12 0 _) h2
    · rw [if_neg c]; exact h2
end PF
/-! one more put -/
theorem put_inj (hA : inj12 A) (hm : mayP so ne ns A p s) (hns : ns ≤ 12) (hp : p < 12) : inj12 (upd0 A s (some p)) := by
  obtain ⟨m1, m2, m3, m4⟩ := hm
  have c : ∀ a q, upd0 A s (some p) a = some q → (a = s ∧ q = p) ∨ (a ≠ s ∧ A a = some q) := fun a q h => by
    by_cases e : a = s
    · subst e; rw [upd0_same] at h; cases h; exact Or.inl ⟨rfl, rfl⟩
    · rw [upd0_ne e] at h; exact Or.inr ⟨e, h⟩
  refine ⟨fun a a' q h h' => ?_, fun a q h => ?_, fun a ha => ?_⟩
  · rcases c a q h with ⟨e1, e2⟩ | ⟨e1, e2⟩ <;> rcases c a' q h' with ⟨f1, f2⟩ | ⟨f1, f2⟩
    · omega
    · subst e2; exact absurd f2 (m3 a')
    · subst f2; exact absurd e2 (m3 a)
    · exact hA.1 a a' q e2 f2
  · rcases c a q h with ⟨e1, e2⟩ | ⟨e1, e2⟩
    · omega
    · exact hA.2.1 a q e2
  · rw [upd0_ne (by omega)]; exact hA.2.2 a ha
theorem put_lt (hlt : ∀ s, ns ≤ s → A s = none) (hm : mayP so ne ns A p s) : ∀ s', ns ≤ s' → upd0 A s (some p) s' = none := fun s' h => by
  have := hm.1
  rw [upd0_ne (by omega)]; exact hlt s' h
theorem put_may {l o : Nat} (hm : mayP so ne ns A p s) (hl : p < l) : mayP so ne ns (upd0 A s (some p)) l o ↔ (mayP so ne ns A l o ∧ ¬ ((o < ns ∧ rvl so ne s o (l - p) = true) ∨ o = s)) := by
  have c : ∀ a q, upd0 A s (some p) a = some q → (a = s ∧ q = p) ∨ (a ≠ s ∧ A a = some q) := fun a q h => by
    by_cases e : a = s
    · subst e; rw [upd0_same] at h; cases h; exact Or.inl ⟨rfl, rfl⟩
    · rw [upd0_ne e] at h; exact Or.inr ⟨e, h⟩
  have k : ∀ a q, A a = some q → upd0 A s (some p) a = some q := fun a q h => by
    by_cases e : a = s
    · subst e; rw [hm.2.1] at h; cases h
    · rw [upd0_ne e]; exact h
  have d : dst l p = l - p := by unfold dst; omega
  constructor
  · rintro ⟨a1, a2, a3, a4⟩
    have ne' : o ≠ s := fun e => by subst e; rw [upd0_same] at a2; cases a2
    refine ⟨⟨a1, by rw [upd0_ne ne'] at a2; exact a2, fun o' h => a3 o' (k o' l h), fun o' q h => a4 o' q (k o' q h)⟩, ?_⟩
    rintro (⟨_, h⟩ | h)
    · have := a4 s p upd0_same
      rw [d, rvl_sym] at this
      rw [this] at h; cases h
    · exact ne' h
  · rintro ⟨⟨a1, a2, a3, a4⟩, h⟩
    have ne' : o ≠ s := fun e => h (Or.inr e)
    refine ⟨a1, by rw [upd0_ne ne']; exact a2, fun o' e => ?_, fun o' q e => ?_⟩
    · rcases c o' l e with ⟨_, e2⟩ | ⟨_, e2⟩
      · omega
      · exact a3 o' e2
    · rcases c o' q e with ⟨e1, e2⟩ | ⟨_, e2⟩
      · subst e1; subst e2
        rw [d, rvl_sym]
        cases z : rvl so ne o' o (l - q) with
        | false => rfl
        | true => exact absurd (Or.inl ⟨a1, z⟩) h
      · exact a4 o' q e2
end MIXP
