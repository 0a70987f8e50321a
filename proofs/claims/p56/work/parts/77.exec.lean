/-! writing and executing the law's texts -/
def withX (q : RM) (z : SX6) : RM := (q.1, q.2.1, q.2.2.1, z, q.2.2.2.2)
def chX (i j : Nat) : Int32 := (sx i).getD j 0 &&& 255
def wrX (z : SX6) (i k : Nat) : SX6 := (fun j => if j < k then chX i j else z.1 j, nI k, z.2.2)
def z00 : SX6 := (z0, 0, 0, z0, z0, z0, z0, 0)
set_option maxRecDepth 100000 in
theorem tx_nar : ∀ i, i < 63 → ∀ j, j < (sx i).length → vp_nar .char (chX i j) = chX i j := by decide +kernel
theorem tx_30 : ∀ i, i < 63 → 36 ≤ i → (sx i).length ≤ 29 := by decide +kernel
def chkT (i : Nat) : Bool := match g_X6_readCommands (wrX z00 i (sx i).length) with
  | some (r, y) => decide (r = 1) && decide (0 ≤ y.2.2.2.2.2.2.2 ∧ y.2.2.2.2.2.2.2 ≤ 13)
  | none => false
set_option maxRecDepth 100000 in
theorem chk_all : ∀ i, i < 63 → 36 ≤ i → chkT i = true := by decide +kernel
def chk0 : Bool := match g_X6_readCommands z00 with
  | some (r, _) => decide (r = 0)
  | none => false
theorem chk_0 : chk0 = true := by decide +kernel
/-- the texts match the grammar, whatever stood in the rows before -/
theorem rd_text {i : Nat} (h1 : i < 63) (h2 : 36 ≤ i) (z : SX6) : ∃ z1 cc, cc ≤ 13 ∧ g_X6_readCommands (wrX z i (sx i).length) = some (1, z1) ∧ z1.2.2.2.2.2.2.2 = nI cc := by
  have hc := chk_all i h1 h2
  have hl := tx_30 i h1 h2
  unfold chkT at hc
  cases hg : g_X6_readCommands (wrX z00 i (sx i).length) with
  | none => rw [hg] at hc; cases hc
  | some p =>
    obtain ⟨r, y⟩ := p
    rw [hg] at hc
    simp only [Bool.and_eq_true, decide_eq_true_eq] at hc
    obtain ⟨hr, hc1, hc2⟩ := hc
    subst hr
    obtain ⟨cc, hcc, e⟩ := nI_of2 (x := y.2.2.2.2.2.2.2) (M := 13) (n := 13) rfl (by rw [Int32.not_lt]; exact hc1) hc2
    obtain ⟨b3, b4, b5, b6, c2, f⟩ := t_cmds (n := (sx i).length) (a0 := (wrX z00 i (sx i).length).1) (b0 := (wrX z i (sx i).length).1) (by omega) (fun j hj => by
      show (if j < (sx i).length then chX i j else z00.1 j) = (if j < (sx i).length then chX i j else z.1 j)
      rw [if_pos hj, if_pos hj]) 300 0 0 z0 z0 z0 z0 0 hg z.2.2.2.1 z.2.2.2.2.1 z.2.2.2.2.2.1 z.2.2.2.2.2.2.1
    exact ⟨_, cc, hcc, f, e⟩
theorem rd_none (z : SX6) (hz : z.2.1 = 0) : ∃ z1, g_X6_readCommands z = some (0, z1) := by
  have hc := chk_0
  unfold chk0 at hc
  cases hg : g_X6_readCommands z00 with
  | none => rw [hg] at hc; cases hc
  | some p =>
    obtain ⟨r, y⟩ := p
    rw [hg] at hc
    simp only [decide_eq_true_eq] at hc
    subst hc
    obtain ⟨b3, b4, b5, b6, c2, f⟩ := t_cmds (n := 0) (a0 := z00.1) (b0 := z.1) (by omega) (fun j hj => by omega) 300 0 0 z0 z0 z0 z0 0 hg z.2.2.2.1 z.2.2.2.2.1 z.2.2.2.2.2.1 z.2.2.2.2.2.2.1
    refine ⟨(z.1, nI 0, c2, b3, b4, b5, b6, y.2.2.2.2.2.2.2), ?_⟩
    show f_X6_readCommands z.1 z.2.1 z.2.2.1 z.2.2.2.1 z.2.2.2.2.1 z.2.2.2.2.2.1 z.2.2.2.2.2.2.1 z.2.2.2.2.2.2.2 = _
    rw [hz]
    exact f
section EX
variable {x t : MB} {q : RM}
theorem c_put {z : SX6} {i k : Nat} (hi : i < 63) (hk : k < (sx i).length) (h60 : k < 60) : f_L_put (sS x t (eR (withX q (wrX z i k)))) (chX i k) = some (1, sS x t (eR (withX q (wrX z i (k + 1))))) := by
  have e1 : g_X6_isFull (wrX z i k) = some 0 := if_pos (show nI k < 60 from nI_lt (b := 60) h60 (by omega))
  have e2 : g_X6_append (wrX z i k) (chX i k) = some (wrX z i (k + 1)) := by
    show ((g_X6_isFull (wrX z i k)).bind fun r2 => (if r2 = 0 then if nI k < 0 ∨ 60 ≤ (nI k).toNatClampNeg then none else some ((upd (wrX z i k).1 (nI k).toNatClampNeg (vp_nar .char (chX i k))), (nI k + 1), _) else _)) = _
    rw [e1, Option.bind_some, if_pos rfl, if_neg (nI_in h60 (by omega)), nI_clamp (by omega), tx_nar i hi k hk, nI_1]
    have e3 : upd (wrX z i k).1 k (chX i k) = (wrX z i (k + 1)).1 := by
      funext j
      show (if j = k then chX i k else (if j < k then chX i j else z.1 j)) = (if j < k + 1 then chX i j else z.1 j)
      by_cases h1 : j = k
      · rw [if_pos h1, if_pos (by omega), h1]
      · rw [if_neg h1]
        by_cases h2 : j < k
        · rw [if_pos h2, if_pos (by omega)]
        · rw [if_neg h2, if_neg (by omega)]
    rw [e3]
    rfl
  unfold f_L_put g_X7_feed f_X7_feed
  rw [show g_X6_isFull (sS x t (eR (withX q (wrX z i k)))).2.2.2.2.2.1 = _ from e1, Option.bind_some, if_pos rfl, show g_X6_append (sS x t (eR (withX q (wrX z i k)))).2.2.2.2.2.1 (chX i k) = _ from e2]
  rfl
theorem c_write {i : Nat} (hi : i < 63) (h36 : 36 ≤ i) (hq : okR q) : f_L_write (sS x t (eR q)) i = some (sS x t (eR (withX q (wrX q.2.2.2.1 i (sx i).length)))) := by
  have hl := tx_30 i hi h36
  have loop : ∀ (fu k : Nat), (sx i).length < fu + k → k ≤ (sx i).length → f_L_write_2 i fu (sS x t (eR (withX q (wrX q.2.2.2.1 i k)))) (nI k) = some (sS x t (eR (withX q (wrX q.2.2.2.1 i (sx i).length)))) := by
    intro fu
    induction fu with
    | zero => intro k h1 h2; omega
    | succ fu ih =>
      intro k h1 h2
      rw [f_L_write_2, if_neg (by omega)]
      by_cases h : (sx i).length ≤ k
      · rw [if_pos (nI_le h (by omega)), show k = (sx i).length by omega]
      · rw [if_neg (nI_ge (by omega) (by omega)), if_neg (by omega), if_neg (nI_in (by omega) (by omega)), nI_clamp (by omega), show ((sx i).getD k 0 &&& 255) = chX i k from rfl, c_put hi (by omega) (by omega), bS_some, nI_1]
        exact ih (k + 1) (by omega) (by omega)
  have h := loop 30 0 (by omega) (Nat.zero_le _)
  have e : wrX q.2.2.2.1 i 0 = q.2.2.2.1 := by
    have h0 := hq.2.2
    unfold wrX
    rw [nI_0, ← h0]
    rfl
  rw [e] at h
  exact h
theorem c_cmd (ht : okB t) {i : Nat} (hi : i < 13) : ∃ z, f_X7_judgeCommand (sS x t (eR q)).1 (sS x t (eR q)).2.1 (sS x t (eR q)).2.2.1 (sS x t (eR q)).2.2.2.1 (sS x t (eR q)).2.2.2.2.1 (sS x t (eR q)).2.2.2.2.2.1 (sS x t (eR q)).2.2.2.2.2.2.1 (sS x t (eR q)).2.2.2.2.2.2.2.1 (sS x t (eR q)).2.2.2.2.2.2.2.2.1 (sS x t (eR q)).2.2.2.2.2.2.2.2.2 (nI i) = some z ∧ (isV z ∨ (z = 0 ∧ ∃ t2, okB t2 ∧ f_X7_carryOutCommand (sS x t (eR q)).1 (sS x t (eR q)).2.1 (sS x t (eR q)).2.2.1 (sS x t (eR q)).2.2.2.1 (sS x t (eR q)).2.2.2.2.1 (sS x t (eR q)).2.2.2.2.2.1 (sS x t (eR q)).2.2.2.2.2.2.1 (sS x t (eR q)).2.2.2.2.2.2.2.1 (sS x t (eR q)).2.2.2.2.2.2.2.2.1 (sS x t (eR q)).2.2.2.2.2.2.2.2.2 (nI i) = some (sS x t2 (eR q)))) := by
  have h8 : nF t ≤ 8 := ht.1.1
  have g1 : ¬ (nI i < 0 ∨ 13 ≤ (nI i).toNatClampNeg) := nI_in hi (by omega)
  unfold f_X7_judgeCommand f_X7_carryOutCommand
  rw [if_neg g1, if_neg g1, if_neg g1, if_neg g1, if_neg g1, if_neg g1, if_neg g1, if_neg g1]
  have eT : (sS x t (eR q)).2.1 = eB t := rfl
  rw [eT]
  generalize (sS x t (eR q)).2.2.2.2.2.1.2.2.2.2.2.1 (nI i).toNatClampNeg = nu
  generalize (sS x t (eR q)).2.2.2.2.2.1.2.2.2.2.2.2.1 (nI i).toNatClampNeg = le
  generalize (sS x t (eR q)).2.2.2.2.2.1.2.2.2.2.1 (nI i).toNatClampNeg = ki
  generalize (sS x t (eR q)).2.2.2.2.2.1.2.2.2.1 (nI i).toNatClampNeg = wo
  have fin : ∀ {t2 : MB}, some (eB x, eB t2, (sS x t (eR q)).2.2.1, (sS x t (eR q)).2.2.2.1, (sS x t (eR q)).2.2.2.2.1, (sS x t (eR q)).2.2.2.2.2.1, (sS x t (eR q)).2.2.2.2.2.2.1, (sS x t (eR q)).2.2.2.2.2.2.2.1, (sS x t (eR q)).2.2.2.2.2.2.2.2.1, (sS x t (eR q)).2.2.2.2.2.2.2.2.2) = some (sS x t2 (eR q)) := fun {t2} => rfl
  by_cases w0 : wo = 0
  · rw [if_pos w0, if_pos w0]
    rcases j_phase ht ki nu le with ⟨z, hz, hv⟩ | ⟨hz, kk, ii, vv, rfl, rfl, rfl, hk, b1, b2, b3, b4, hn, hl⟩
    · exact ⟨z, by rw [hz]; rfl, Or.inl hv⟩
    · exact ⟨0, by rw [hz]; rfl, Or.inr ⟨rfl, _, appM_ok ht hk ⟨b1, b2⟩ ⟨b3, b4⟩ hn ((lf_run ht).mpr hl), by rw [o_append hk hn]; rfl⟩⟩
  · rw [if_neg w0, if_neg w0]
    by_cases w1 : wo = 1
    · rw [if_pos w1, if_pos w1]
      rcases j_cut ht nu with ⟨z, hz, hv⟩ | ⟨hz, j, rfl, hj, hl⟩
      · exact ⟨z, by rw [hz]; rfl, Or.inl hv⟩
      · exact ⟨0, by rw [hz]; rfl, Or.inr ⟨rfl, _, cutM_ok ht hj ((lf_run ht).mpr hl), by rw [o_cut ht hj]; rfl⟩⟩
    · rw [if_neg w1, if_neg w1]
      by_cases w2 : wo = 2
      · rw [if_pos w2, if_pos w2]
        rcases j_load ht nu with ⟨z, hz, hv⟩ | ⟨hz, k, rfl, b1, b2⟩
        · exact ⟨z, by rw [hz]; rfl, Or.inl hv⟩
        · exact ⟨0, by rw [hz]; rfl, Or.inr ⟨rfl, _, loadM_ok ht b1 b2, by rw [o_load ht b1 b2]; rfl⟩⟩
      · rw [if_neg w2, if_neg w2]
        by_cases w3 : wo = 3
        · rw [if_pos w3, if_pos w3]
          rcases j_start ht with ⟨z, hz, hv⟩ | ⟨hz, hn, hl⟩
          · exact ⟨z, by rw [hz]; rfl, Or.inl hv⟩
          · exact ⟨0, by rw [hz]; rfl, Or.inr ⟨rfl, _, begM_ok ht hn, by rw [o_start ht hn]; rfl⟩⟩
        · rw [if_neg w3, if_neg w3]
          by_cases w4 : wo = 4
          · rw [if_pos w4, if_pos w4]
            rcases j_stop ht with ⟨z, hz, hv⟩ | hz
            · exact ⟨z, by rw [hz]; rfl, Or.inl hv⟩
            · exact ⟨0, by rw [hz]; rfl, Or.inr ⟨rfl, _, endM_ok ht, by rw [o_stop ht]; rfl⟩⟩
          · rw [if_neg w4, if_neg w4]
            by_cases w5 : wo = 5
            · rw [if_pos w5, if_pos w5]
              rcases j_run (x := t) nu with hz | ⟨hz, k, rfl, b1, b2⟩
              · exact ⟨8, by rw [hz]; rfl, Or.inl v8⟩
              · exact ⟨0, by rw [hz]; rfl, Or.inr ⟨rfl, _, itN_ok k ht, by rw [s_pms ht b2]; rfl⟩⟩
            · rw [if_neg w5, if_neg w5]
              by_cases w6 : wo = 6
              · rw [if_pos w6, if_pos w6]
                rcases j_press ht nu with ⟨z, hz, hv, -⟩ | ⟨hz, k, rfl, b1, b2, b3, b4⟩
                · exact ⟨z, by rw [hz]; rfl, Or.inl hv⟩
                · exact ⟨0, by rw [hz]; rfl, Or.inr ⟨rfl, _, prsM_ok ht ⟨b1, b2⟩ b3 b4, by rw [o_press ht b3 b4]; rfl⟩⟩
              · rw [if_neg w6, if_neg w6]
                by_cases w7 : wo = 7
                · rw [if_pos w7, if_pos w7]
                  rcases j_grade ht nu with ⟨z, hz, hv, -⟩ | ⟨hz, j, rfl, hj⟩
                  · exact ⟨z, by rw [hz]; rfl, Or.inl hv⟩
                  · exact ⟨0, by rw [hz]; rfl, Or.inr ⟨rfl, _, grdM_ok ht hj, by rw [o_grade ht hj]; rfl⟩⟩
                · rw [if_neg w7, if_neg w7]
                  rcases j_crush ht nu with ⟨z, hz, hv, -⟩ | ⟨hz, j, rfl, hj, hl⟩
                  · exact ⟨z, by rw [hz]; rfl, Or.inl hv⟩
                  · exact ⟨0, by rw [hz]; rfl, Or.inr ⟨rfl, _, crsM_ok ht hj hl, by rw [o_crush ht hj hl]; rfl⟩⟩
end EX
