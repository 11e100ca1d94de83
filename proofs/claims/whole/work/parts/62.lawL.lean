/-! THE LAW: its loop -/
section LAWL
variable {g : vt_GT} {cl sl b N : Nat} {xs : Nat → Int32} {P : Option Value → vt_Sg → Prop}
theorem lw_loop (hN : N ≤ 3072) (hcs : cl ≤ room_1.cells ∧ sl ≤ room_1.slots) (hP : ∀ σ, P (some (.int 1)) σ) : ∀ m j (σ : vt_Sg), N < 6 * j + m → 6 * j ≤ N → Inv σ → TT g room_1 cl sl D_law (some (b, N, xs)) 18 [some (.ref b), some (.ref (g.2.1 0)), some (.ref (g.2.1 168)), some (.int (nI (6 * j)))] [] σ P := by
  intro m
  induction m with
  | zero => intro j σ h1 h2; omega
  | succ m ih =>
    intro j σ h1 h2 hI
    refine q_iload_n dlaw_18 rfl ?_
    refine q_aload_n dlaw_19 rfl ?_
    refine q_xlen rfl dlaw_20 ?_
    refine q_bipush (v := 6) dlaw_21 (by decide) ?_
    refine q_isub dlaw_23 ?_
    have e6 : (nI N - nI 6).toInt = (N : Int) - 6 := pk_sub_toInt (by omega) (by omega)
    have ej : (nI (6 * j)).toInt = ((6 * j : Nat) : Int) := nI_toInt (by omega)
    refine q_icmp_gt (tgt := 1326) dlaw_24 (by decide) (fun _ => ?_) (fun c => ?_)
    · refine q_iconst (v := 1) dlaw_1326 (by decide) ?_
      exact q_iret .boolean rfl rfl dlaw_1327 (hP σ)
    · have c : ¬ nI N - nI 6 < nI (6 * j) := c
      have hj : 6 * j + 6 ≤ N := by
        rw [Int32.lt_iff_toInt_lt, e6, ej] at c
        omega
      have hin : ∀ c : Nat, c < 6 → vp_in (nI (6 * j) + nI c) N := fun c hc => by rw [nI_add]; exact inN (by omega) (by omega)
      refine q_aload_n dlaw_27 rfl ?_
      refine q_iload_n dlaw_28 rfl ?_
      refine q_xald rfl dlaw_29 (inN (by omega) (by omega)) ?_
      refine q_bipush (v := 63) dlaw_30 (by decide) ?_
      refine q_iand dlaw_32 ?_
      obtain ⟨j', hj', e⟩ := pk_andE (xs (nI (6 * j)).toNatClampNeg) (m := 63) 6 (by decide)
      rw [e]
      refine lw_switch hj' hI hin hcs (fun σ' hI' => ?_)
      refine q_iinc dlaw_1320 rfl (by decide) (by rfl) rfl ?_
      refine q_goto (tgt := 18) dlaw_1323 (by decide) ?_
      have e' : nI (6 * j) + 6 = nI (6 * (j + 1)) := nI_add (6 * j) 6
      have l := ih (j + 1) σ' (by omega) (by omega) hI'
      rw [← e'] at l
      exact l
end LAWL
