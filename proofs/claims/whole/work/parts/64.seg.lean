/-! CONSTRUCTORS: the world by its layout -/
def sgE (cA : Nat → ClassId) (ad : Nat → Nat) (f : Nat → Int32) (e : vt_LE) : va_E := match e with
  | .inl (kd, n, r0) => .inl (cA kd, n, if kd < 4 then .inl f else .inr (.inr (.inr (.inr (fun j => if j < n then some (ad (r0 + j)) else none)))))
  | .inr (ci, fl) => .inr (ci, vt_fl ad f fl)
def sgL (cA : Nat → ClassId) (ad : Nat → Nat) (σ : vt_Sg) : Nat → List vt_LE → va_W
  | _, [] => []
  | k, e :: l => (ad k, sgE cA ad (σ k) e) :: sgL cA ad σ (k + 1) l
section SEG
variable {cA : Nat → ClassId} {ad ad' : Nat → Nat} {σ σ' : vt_Sg}
theorem sgL_app : ∀ (l1 l2 : List vt_LE) (k : Nat), sgL cA ad σ k (l1 ++ l2) = sgL cA ad σ k l1 ++ sgL cA ad σ (k + l1.length) l2
  | [], _, _ => rfl
  | e :: l1, l2, k => by
    have := sgL_app l1 l2 (k + 1)
    rw [List.cons_append, sgL, this, sgL, List.cons_append, List.length_cons, Nat.add_right_comm, Nat.add_assoc]
theorem sgL_at : ∀ (l : List vt_LE) (k i : Nat), (sgL cA ad σ k l)[i]? = (l[i]?).map (fun e => (ad (k + i), sgE cA ad (σ (k + i)) e))
  | [], _, _ => rfl
  | e :: l, k, 0 => rfl
  | e :: l, k, i + 1 => by
    rw [sgL, List.getElem?_cons_succ, List.getElem?_cons_succ, sgL_at l (k + 1) i, Nat.add_right_comm, Nat.add_assoc]
theorem vt_W_sg (g : vt_GT) (σ : vt_Sg) : vt_W g σ = sgL g.2.2.1 g.2.1 σ 0 vt_lay := by
  apply List.ext_getElem?
  intro i
  rw [sgL_at]
  unfold vt_W
  rw [List.getElem?_mapIdx, Nat.zero_add]
  rfl
/-- a layout o places further on -/
def shE (o : Nat) (e : vt_LE) : vt_LE := match e with
  | .inl (kd, n, r0) => .inl (kd, n, if kd < 4 then r0 else o + r0)
  | .inr (ci, fl) => .inr (ci, fl.map (Option.map (fun r => o + r)))
def rfs (B : Nat) (e : vt_LE) : Bool := match e with
  | .inl (kd, n, r0) => decide (kd < 4) || decide (r0 + n ≤ B)
  | .inr (_, fl) => fl.all (fun x => match x with | none => true | some r => decide (r < B))
theorem sg_row {n : Nat} {r r' : Nat → Nat} (h : ∀ j, j < n → r j = r' j) : (fun j => if j < n then some (r j) else none) = (fun j => if j < n then some (r' j) else none) := by
  funext j
  by_cases c : j < n
  · rw [if_pos c, if_pos c, h j c]
  · rw [if_neg c, if_neg c]
theorem shE_eq {o B : Nat} {f f' : Nat → Int32} {e : vt_LE} (h1 : ∀ j, j < B → ad' (o + j) = ad j) (h2 : f' = f) (h3 : rfs B e = true) : sgE cA ad' f' (shE o e) = sgE cA ad f e := by
  subst h2
  match e, h3 with
  | .inl (kd, n, r0), h3 =>
    by_cases c : kd < 4
    · show Sum.inl (cA kd, n, if kd < 4 then _ else _) = Sum.inl (cA kd, n, if kd < 4 then _ else _)
      rw [if_pos c, if_pos c]
    · have hb : r0 + n ≤ B := by
        simp only [rfs, Bool.or_eq_true, decide_eq_true_eq] at h3
        exact h3.resolve_left c
      show (Sum.inl (cA kd, n, if kd < 4 then _ else .inr (.inr (.inr (.inr (fun j => if j < n then some (ad' ((if kd < 4 then r0 else o + r0) + j)) else none))))) : va_E) = (Sum.inl (cA kd, n, if kd < 4 then _ else .inr (.inr (.inr (.inr (fun j => if j < n then some (ad (r0 + j)) else none))))) : va_E)
      rw [if_neg c, if_neg c, if_neg c]
      rw [sg_row (r := fun j => ad' (o + r0 + j)) (r' := fun j => ad (r0 + j)) (fun j hj => by show ad' (o + r0 + j) = _; rw [Nat.add_assoc]; exact h1 _ (by omega))]
  | .inr (ci, fl), h3 =>
    have hb : ∀ r, some r ∈ fl → r < B := fun r hr => by
      have := List.all_eq_true.mp h3 (some r) hr
      exact of_decide_eq_true this
    show Sum.inr (ci, vt_fl ad' f' (fl.map (Option.map (fun r => o + r)))) = Sum.inr (ci, vt_fl ad f' fl)
    congr 2
    apply List.ext_getElem?
    intro i
    unfold vt_fl
    rw [List.getElem?_mapIdx, List.getElem?_mapIdx, List.getElem?_map]
    cases hi : fl[i]? with
    | none => rfl
    | some x =>
      cases x with
      | none => rfl
      | some r =>
        have := h1 r (hb r (List.mem_of_getElem? hi))
        show some (Value.ref (ad' (o + r))) = some (Value.ref (ad r))
        rw [this]
theorem sg_shift {o B : Nat} (h1 : ∀ j, j < B → ad' (o + j) = ad j) (h2 : ∀ j, j < B → σ' (o + j) = σ j) : ∀ (l : List vt_LE) (k : Nat), k + l.length ≤ B → l.all (rfs B) = true → sgL cA ad' σ' (o + k) (l.map (shE o)) = sgL cA ad σ k l
  | [], _, _, _ => rfl
  | e :: l, k, hk, hl => by
    rw [List.length_cons] at hk
    rw [List.all_cons, Bool.and_eq_true] at hl
    rw [List.map_cons, sgL, sgL, h1 k (by omega), shE_eq h1 (h2 k (by omega)) hl.1, Nat.add_assoc, sg_shift h1 h2 l (k + 1) (by omega) hl.2]
end SEG
/-! Arrays.fill, over its one cell -/
def fil (f : Nat → Int32) (v : Int32) (n : Nat) : Nat → Int32 := fun j => if j < n then v else f j
theorem fil_s {f : Nat → Int32} {v : Int32} {n : Nat} : upd (fil f v n) n v = fil f v (n + 1) := by
  funext j
  unfold fil
  by_cases z : j = n
  · subst z; rw [upd_same, if_pos (by omega)]
  · rw [upd_ne z]
    by_cases c : j < n
    · rw [if_pos c, if_pos (by omega)]
    · rw [if_neg c, if_neg (by omega)]
theorem fil_0 {f : Nat → Int32} {v : Int32} : fil f v 0 = f := by
  funext j
  unfold fil
  rw [if_neg (by omega)]
theorem c_fillC {g : vt_GT} {a n : Nat} {v : Int32} {f : Nat → Int32} (hn : n < 1000) : vc_M g 1 0 0 D_J7_fill_53178 [.ref a, .int v] [(a, .inl (g.2.2.1 0, n, .inl f))] (fun w1 => w1 = [(a, .inl (g.2.2.1 0, n, .inl (fil f v n)))]) := by
  refine vc_meth (by decide +kernel) rfl rfl rfl rfl ?_
  refine k_iconst (v := 0) dJ7_fill_53178_0 (by decide) ?_
  refine k_istore_n (L' := [some (.ref a), some (.int v), some (.int (nI 0)), none]) dJ7_fill_53178_1 (by decide) rfl rfl ?_
  refine k_aload_n dJ7_fill_53178_2 rfl ?_
  refine k_alen (n := n) (f := f) 0 dJ7_fill_53178_3 rfl ?_
  refine k_istore_n (L' := [some (.ref a), some (.int v), some (.int (nI 0)), some (.int (nI n))]) dJ7_fill_53178_4 (by decide) rfl rfl ?_
  have key : ∀ m i, i + m = n → CT g (vc_R 1 0 0) 0 0 D_J7_fill_53178 5 [some (.ref a), some (.int v), some (.int (nI i)), some (.int (nI n))] [] [(a, .inl (g.2.2.1 0, n, .inl (fil f v i)))] 0 0 (fun w1 => w1 = [(a, .inl (g.2.2.1 0, n, .inl (fil f v n)))]) := by
    intro m
    induction m with
    | zero =>
      intro i hi
      have : i = n := hi
      subst this
      refine k_iload_n dJ7_fill_53178_5 rfl ?_
      refine k_iload_n dJ7_fill_53178_6 rfl ?_
      refine k_icmp_ge (tgt := 20) dJ7_fill_53178_7 (by decide) (fun _ => ?_) (fun c => absurd (nI_le (Nat.le_refl _) (by omega)) c)
      exact k_ret dJ7_fill_53178_20 rfl rfl rfl
    | succ m ih =>
      intro i hi
      refine k_iload_n dJ7_fill_53178_5 rfl ?_
      refine k_iload_n dJ7_fill_53178_6 rfl ?_
      refine k_icmp_ge (tgt := 20) dJ7_fill_53178_7 (by decide) (fun c => absurd c (nI_ge (by omega) (by omega))) (fun _ => ?_)
      refine k_aload_n dJ7_fill_53178_10 rfl ?_
      refine k_iload_n dJ7_fill_53178_11 rfl ?_
      refine k_iload_n dJ7_fill_53178_12 rfl ?_
      refine k_iast (n := n) (f := fil f v i) (ws' := [(a, .inl (g.2.2.1 0, n, .inl (fil f v (i + 1))))]) 0 dJ7_fill_53178_13 rfl (inN (by omega) (by omega)) (by rw [nI_clamp (by omega), fil_s]; rfl) ?_
      refine k_iinc (L' := [some (.ref a), some (.int v), some (.int (nI (i + 1))), some (.int (nI n))]) dJ7_fill_53178_14 rfl (by decide) rfl (by rw [← nI_1]; rfl) ?_
      refine k_goto (tgt := 5) dJ7_fill_53178_17 (by decide) ?_
      exact ih (i + 1) (by omega)
  have l := key n 0 (by omega)
  rw [fil_0] at l
  exact l
