/-! the batch judges and changes as the model says -/
def isV (z : Int32) : Prop := ∃ n, z = nI n ∧ 1 ≤ n ∧ n ≤ 8
theorem isV_ne {z : Int32} (h : isV z) : z ≠ 0 := by
  obtain ⟨n, rfl, h1, h2⟩ := h
  exact nI_ne0 (by omega) (by omega)
theorem isV_pos {z : Int32} (h : isV z) : ¬ z ≤ 0 := by
  obtain ⟨n, rfl, h1, h2⟩ := h
  exact nI_nle (by omega) (by omega)
theorem v1 : isV 1 := ⟨1, rfl, by omega, by omega⟩
theorem v2 : isV 2 := ⟨2, rfl, by omega, by omega⟩
theorem v3 : isV 3 := ⟨3, rfl, by omega, by omega⟩
theorem v4 : isV 4 := ⟨4, rfl, by omega, by omega⟩
theorem v5 : isV 5 := ⟨5, rfl, by omega, by omega⟩
theorem v6 : isV 6 := ⟨6, rfl, by omega, by omega⟩
theorem v8 : isV 8 := ⟨8, rfl, by omega, by omega⟩
theorem w_any (p : Int32) {a b : Nat} (ha : a < 1000) (hb : b < 1000) : f_X7_isWithin p (nI a) (nI b) = some 0 ∨ ∃ k, p = nI k ∧ a ≤ k ∧ k ≤ b ∧ f_X7_isWithin p (nI a) (nI b) = some 1 := by
  unfold f_X7_isWithin
  by_cases h1 : p < nI a
  · exact Or.inl (if_pos h1)
  · by_cases h2 : nI b < p
    · rw [if_neg h1, if_pos h2]
      exact Or.inl rfl
    · rw [if_neg h1, if_neg h2]
      have h3 : ¬ p < 0 := fun h => h1 (Int32.lt_of_lt_of_le h (nI_pos' (by omega)))
      obtain ⟨k, hk, rfl⟩ := nI_of h3
      refine Or.inr ⟨k, rfl, ?_, ?_, rfl⟩
      · exact Nat.not_lt.mp fun h => h1 (nI_lt h (by omega))
      · exact Nat.not_lt.mp fun h => h2 (nI_lt h hk)
theorem k_any (p : Int32) : f_X2_isKind p = some 0 ∨ ∃ k, p = nI k ∧ isK k ∧ f_X2_isKind p = some 1 := by
  unfold f_X2_isKind
  by_cases h1 : p = 104
  · exact Or.inr ⟨104, h1, Or.inl rfl, if_pos h1⟩
  · rw [if_neg h1]
    by_cases h2 : p = 99
    · exact Or.inr ⟨99, h2, Or.inr (Or.inl rfl), if_pos h2⟩
    · rw [if_neg h2]
      by_cases h3 : p = 116
      · exact Or.inr ⟨116, h3, Or.inr (Or.inr (Or.inl rfl)), if_pos h3⟩
      · rw [if_neg h3]
        by_cases h4 : p = 114
        · exact Or.inr ⟨114, h4, Or.inr (Or.inr (Or.inr rfl)), if_pos h4⟩
        · rw [if_neg h4]
          exact Or.inl rfl
theorem hasC_any {k i v : Ar} {p d f : Int32} {n : Nat} (hn : n ≤ 8) (q : Int32) : f_X2_has k i v (nI n) p d f q = some 0 ∨ ∃ j, j < n ∧ q = nI j ∧ f_X2_has k i v (nI n) p d f q = some 1 := by
  rcases pk_ix q (n := n) (by omega) with h | h | ⟨j, hj, rfl⟩
  · exact Or.inl (by unfold f_X2_has; exact if_pos h)
  · by_cases h1 : q < 0
    · exact Or.inl (by unfold f_X2_has; exact if_pos h1)
    · exact Or.inl (by unfold f_X2_has; rw [if_neg h1, if_pos h])
  · exact Or.inr ⟨j, hj, rfl, h_hasC hj hn⟩
theorem hasT_any {M T S C : Ar} {c : Nat} (hn : c ≤ 12) (q : Int32) : f_X4_has M T S C (nI c) q = some 0 ∨ ∃ j, j < c ∧ q = nI j ∧ f_X4_has M T S C (nI c) q = some 1 := by
  rcases pk_ix q (n := c) (by omega) with h | h | ⟨j, hj, rfl⟩
  · exact Or.inl (by unfold f_X4_has; exact if_pos h)
  · by_cases h1 : q < 0
    · exact Or.inl (by unfold f_X4_has; exact if_pos h1)
    · exact Or.inl (by unfold f_X4_has; rw [if_neg h1, if_pos h])
  · exact Or.inr ⟨j, hj, rfl, h_hasT hj hn⟩
section JU
variable {x : MB}
theorem s_under2 (ho : okB x) : f_X2_isUnderWay (eF x.1.1) (eF x.1.2.1) (eF x.1.2.2.1) (nI (nF x)) (pI x.1.2.2.2.2.1) (nI x.1.2.2.2.2.2.1) x.1.2.2.2.2.2.2 = some (if lf x = 0 then 0 else 1) := s_under ho
theorem j_phase (ho : okB x) (k i v : Int32) : (∃ z, g_X0_judgePhase (eB x) k i v = some z ∧ isV z) ∨ (g_X0_judgePhase (eB x) k i v = some 0 ∧ ∃ kk ii vv, k = nI kk ∧ i = nI ii ∧ v = nI vv ∧ isK kk ∧ 1 ≤ ii ∧ ii ≤ 30 ∧ 1 ≤ vv ∧ vv ≤ 5 ∧ nF x < 8 ∧ lf x = 0) := by
  have h8 : nF x ≤ 8 := ho.1.1
  show (∃ z, f_X0_judgePhase (eF x.1.1) (eF x.1.2.1) (eF x.1.2.2.1) (nI (nF x)) (pI x.1.2.2.2.2.1) (nI x.1.2.2.2.2.2.1) x.1.2.2.2.2.2.2 (nI x.2.1.1) (nI x.2.1.2.1) (nI x.2.1.2.2.1) (nI x.2.1.2.2.2) (eF x.2.2.1.1) (eF x.2.2.1.2.1) (eF x.2.2.1.2.2.1) (eF x.2.2.1.2.2.2.1) (nI (nQ x)) x.2.2.2.1 x.2.2.2.2.1 x.2.2.2.2.2.1 x.2.2.2.2.2.2 k i v = some z ∧ isV z) ∨ (f_X0_judgePhase (eF x.1.1) (eF x.1.2.1) (eF x.1.2.2.1) (nI (nF x)) (pI x.1.2.2.2.2.1) (nI x.1.2.2.2.2.2.1) x.1.2.2.2.2.2.2 (nI x.2.1.1) (nI x.2.1.2.1) (nI x.2.1.2.2.1) (nI x.2.1.2.2.2) (eF x.2.2.1.1) (eF x.2.2.1.2.1) (eF x.2.2.1.2.2.1) (eF x.2.2.1.2.2.2.1) (nI (nQ x)) x.2.2.2.1 x.2.2.2.2.1 x.2.2.2.2.2.1 x.2.2.2.2.2.2 k i v = some 0 ∧ _)
  unfold f_X0_judgePhase
  rcases k_any k with h | ⟨kk, rfl, hk, h⟩
  · rw [h, Option.bind_some, if_pos rfl]
    exact Or.inl ⟨8, rfl, v8⟩
  · rw [h, Option.bind_some, if_neg (by decide)]
    rcases w_any i (a := 1) (b := 30) (by omega) (by omega) with h | ⟨ii, rfl, g1, g2, h⟩
    · rw [show f_X7_isWithin i 1 30 = some 0 from h, Option.bind_some, if_pos rfl]
      exact Or.inl ⟨8, rfl, v8⟩
    · rw [show f_X7_isWithin (nI ii) 1 30 = some 1 from h, Option.bind_some, if_neg (by decide)]
      rcases w_any v (a := 1) (b := 5) (by omega) (by omega) with h | ⟨vv, rfl, g3, g4, h⟩
      · rw [show f_X7_isWithin v 1 5 = some 0 from h, Option.bind_some, if_pos rfl]
        exact Or.inl ⟨8, rfl, v8⟩
      · rw [show f_X7_isWithin (nI vv) 1 5 = some 1 from h, Option.bind_some, if_neg (by decide), s_under2 ho, Option.bind_some]
        by_cases hl : lf x = 0
        · rw [if_pos hl, if_pos rfl]
          by_cases hn : 8 ≤ nF x
          · rw [if_pos (show 8 ≤ nI (nF x) from nI_le (a := 8) hn (by omega))]
            exact Or.inl ⟨1, rfl, v1⟩
          · rw [if_neg (show ¬ 8 ≤ nI (nF x) from nI_ge (b := 8) (by omega) (by omega))]
            exact Or.inr ⟨rfl, kk, ii, vv, rfl, rfl, rfl, hk, g1, g2, g3, g4, by omega, hl⟩
        · rw [if_neg hl, if_neg (by decide)]
          exact Or.inl ⟨2, rfl, v2⟩
theorem j_cut (ho : okB x) (q : Int32) : (∃ z, g_X0_judgeCut (eB x) q = some z ∧ isV z) ∨ (g_X0_judgeCut (eB x) q = some 0 ∧ ∃ j, q = nI j ∧ j < nF x ∧ lf x = 0) := by
  have h8 : nF x ≤ 8 := ho.1.1
  show (∃ z, f_X0_judgeCut (eF x.1.1) (eF x.1.2.1) (eF x.1.2.2.1) (nI (nF x)) (pI x.1.2.2.2.2.1) (nI x.1.2.2.2.2.2.1) x.1.2.2.2.2.2.2 (nI x.2.1.1) (nI x.2.1.2.1) (nI x.2.1.2.2.1) (nI x.2.1.2.2.2) (eF x.2.2.1.1) (eF x.2.2.1.2.1) (eF x.2.2.1.2.2.1) (eF x.2.2.1.2.2.2.1) (nI (nQ x)) x.2.2.2.1 x.2.2.2.2.1 x.2.2.2.2.2.1 x.2.2.2.2.2.2 q = some z ∧ isV z) ∨ (f_X0_judgeCut (eF x.1.1) (eF x.1.2.1) (eF x.1.2.2.1) (nI (nF x)) (pI x.1.2.2.2.2.1) (nI x.1.2.2.2.2.2.1) x.1.2.2.2.2.2.2 (nI x.2.1.1) (nI x.2.1.2.1) (nI x.2.1.2.2.1) (nI x.2.1.2.2.2) (eF x.2.2.1.1) (eF x.2.2.1.2.1) (eF x.2.2.1.2.2.1) (eF x.2.2.1.2.2.2.1) (nI (nQ x)) x.2.2.2.1 x.2.2.2.2.1 x.2.2.2.2.2.1 x.2.2.2.2.2.2 q = some 0 ∧ _)
  unfold f_X0_judgeCut
  rcases hasC_any (k := eF x.1.1) (i := eF x.1.2.1) (v := eF x.1.2.2.1) (p := pI x.1.2.2.2.2.1) (d := nI x.1.2.2.2.2.2.1) (f := x.1.2.2.2.2.2.2) h8 q with h | ⟨j, hj, rfl, h⟩
  · rw [show f_X2_has _ _ _ _ _ _ _ q = _ from h, Option.bind_some, if_pos rfl]
    exact Or.inl ⟨8, rfl, v8⟩
  · rw [show f_X2_has _ _ _ _ _ _ _ (nI j) = _ from h, Option.bind_some, if_neg (by decide), s_under2 ho, Option.bind_some]
    by_cases hl : lf x = 0
    · rw [if_pos hl, if_pos rfl]
      exact Or.inr ⟨rfl, j, rfl, hj, hl⟩
    · rw [if_neg hl, if_neg (by decide)]
      exact Or.inl ⟨2, rfl, v2⟩
theorem j_start (ho : okB x) : (∃ z, g_X0_judgeStart (eB x) = some z ∧ isV z) ∨ (g_X0_judgeStart (eB x) = some 0 ∧ 0 < nF x ∧ lf x = 0) := by
  have h8 : nF x ≤ 8 := ho.1.1
  show (∃ z, f_X0_judgeStart (eF x.1.1) (eF x.1.2.1) (eF x.1.2.2.1) (nI (nF x)) (pI x.1.2.2.2.2.1) (nI x.1.2.2.2.2.2.1) x.1.2.2.2.2.2.2 (nI x.2.1.1) (nI x.2.1.2.1) (nI x.2.1.2.2.1) (nI x.2.1.2.2.2) (eF x.2.2.1.1) (eF x.2.2.1.2.1) (eF x.2.2.1.2.2.1) (eF x.2.2.1.2.2.2.1) (nI (nQ x)) x.2.2.2.1 x.2.2.2.2.1 x.2.2.2.2.2.1 x.2.2.2.2.2.2 = some z ∧ isV z) ∨ (f_X0_judgeStart (eF x.1.1) (eF x.1.2.1) (eF x.1.2.2.1) (nI (nF x)) (pI x.1.2.2.2.2.1) (nI x.1.2.2.2.2.2.1) x.1.2.2.2.2.2.2 (nI x.2.1.1) (nI x.2.1.2.1) (nI x.2.1.2.2.1) (nI x.2.1.2.2.2) (eF x.2.2.1.1) (eF x.2.2.1.2.1) (eF x.2.2.1.2.2.1) (eF x.2.2.1.2.2.2.1) (nI (nQ x)) x.2.2.2.1 x.2.2.2.2.1 x.2.2.2.2.2.1 x.2.2.2.2.2.2 = some 0 ∧ _)
  unfold f_X0_judgeStart
  rw [s_under2 ho, Option.bind_some]
  by_cases hl : lf x = 0
  · rw [if_pos hl, if_pos rfl]
    by_cases hn : nF x = 0
    · rw [if_pos (show nI (nF x) = 0 by rw [hn]; rfl)]
      exact Or.inl ⟨4, rfl, v4⟩
    · rw [if_neg (show ¬ nI (nF x) = 0 from nI_ne0 (by omega) (by omega))]
      exact Or.inr ⟨rfl, by omega, hl⟩
  · rw [if_neg hl, if_neg (by decide)]
    exact Or.inl ⟨2, rfl, v2⟩
theorem j_stop (ho : okB x) : (∃ z, g_X0_judgeStop (eB x) = some z ∧ isV z) ∨ (g_X0_judgeStop (eB x) = some 0) := by
  show (∃ z, f_X0_judgeStop (eF x.1.1) (eF x.1.2.1) (eF x.1.2.2.1) (nI (nF x)) (pI x.1.2.2.2.2.1) (nI x.1.2.2.2.2.2.1) x.1.2.2.2.2.2.2 (nI x.2.1.1) (nI x.2.1.2.1) (nI x.2.1.2.2.1) (nI x.2.1.2.2.2) (eF x.2.2.1.1) (eF x.2.2.1.2.1) (eF x.2.2.1.2.2.1) (eF x.2.2.1.2.2.2.1) (nI (nQ x)) x.2.2.2.1 x.2.2.2.2.1 x.2.2.2.2.2.1 x.2.2.2.2.2.2 = some z ∧ isV z) ∨ (f_X0_judgeStop (eF x.1.1) (eF x.1.2.1) (eF x.1.2.2.1) (nI (nF x)) (pI x.1.2.2.2.2.1) (nI x.1.2.2.2.2.2.1) x.1.2.2.2.2.2.2 (nI x.2.1.1) (nI x.2.1.2.1) (nI x.2.1.2.2.1) (nI x.2.1.2.2.2) (eF x.2.2.1.1) (eF x.2.2.1.2.1) (eF x.2.2.1.2.2.1) (eF x.2.2.1.2.2.2.1) (nI (nQ x)) x.2.2.2.1 x.2.2.2.2.1 x.2.2.2.2.2.1 x.2.2.2.2.2.2 = some 0)
  unfold f_X0_judgeStop
  rw [s_under2 ho, Option.bind_some]
  by_cases hl : lf x = 0
  · rw [if_pos hl, if_pos rfl]
    exact Or.inl ⟨3, rfl, v3⟩
  · rw [if_neg hl, if_neg (by decide)]
    exact Or.inr rfl
theorem j_run (m : Int32) : (g_X0_judgeRun (eB x) m = some 8) ∨ (g_X0_judgeRun (eB x) m = some 0 ∧ ∃ k, m = nI k ∧ 1 ≤ k ∧ k ≤ 240) := by
  show (f_X0_judgeRun (eF x.1.1) (eF x.1.2.1) (eF x.1.2.2.1) (nI (nF x)) (pI x.1.2.2.2.2.1) (nI x.1.2.2.2.2.2.1) x.1.2.2.2.2.2.2 (nI x.2.1.1) (nI x.2.1.2.1) (nI x.2.1.2.2.1) (nI x.2.1.2.2.2) (eF x.2.2.1.1) (eF x.2.2.1.2.1) (eF x.2.2.1.2.2.1) (eF x.2.2.1.2.2.2.1) (nI (nQ x)) x.2.2.2.1 x.2.2.2.2.1 x.2.2.2.2.2.1 x.2.2.2.2.2.2 m = some 8) ∨ (f_X0_judgeRun (eF x.1.1) (eF x.1.2.1) (eF x.1.2.2.1) (nI (nF x)) (pI x.1.2.2.2.2.1) (nI x.1.2.2.2.2.2.1) x.1.2.2.2.2.2.2 (nI x.2.1.1) (nI x.2.1.2.1) (nI x.2.1.2.2.1) (nI x.2.1.2.2.2) (eF x.2.2.1.1) (eF x.2.2.1.2.1) (eF x.2.2.1.2.2.1) (eF x.2.2.1.2.2.2.1) (nI (nQ x)) x.2.2.2.1 x.2.2.2.2.1 x.2.2.2.2.2.1 x.2.2.2.2.2.2 m = some 0 ∧ _)
  unfold f_X0_judgeRun
  rcases w_any m (a := 1) (b := 240) (by omega) (by omega) with h | ⟨k, rfl, g1, g2, h⟩
  · rw [show f_X7_isWithin m 1 240 = some 0 from h, Option.bind_some, if_pos rfl]
    exact Or.inl rfl
  · rw [show f_X7_isWithin (nI k) 1 240 = some 1 from h, Option.bind_some, if_neg (by decide)]
    exact Or.inr ⟨rfl, k, rfl, g1, g2⟩
theorem j_load (ho : okB x) (m : Int32) : (∃ z, g_X0_judgeLoad (eB x) m = some z ∧ isV z) ∨ (g_X0_judgeLoad (eB x) m = some 0 ∧ ∃ k, m = nI k ∧ 1 ≤ k ∧ x.2.1.1 + k ≤ 100) := by
  have hm : x.2.1.1 ≤ 100 := ho.2.1.1
  show (∃ z, f_X0_judgeLoad (eF x.1.1) (eF x.1.2.1) (eF x.1.2.2.1) (nI (nF x)) (pI x.1.2.2.2.2.1) (nI x.1.2.2.2.2.2.1) x.1.2.2.2.2.2.2 (nI x.2.1.1) (nI x.2.1.2.1) (nI x.2.1.2.2.1) (nI x.2.1.2.2.2) (eF x.2.2.1.1) (eF x.2.2.1.2.1) (eF x.2.2.1.2.2.1) (eF x.2.2.1.2.2.2.1) (nI (nQ x)) x.2.2.2.1 x.2.2.2.2.1 x.2.2.2.2.2.1 x.2.2.2.2.2.2 m = some z ∧ isV z) ∨ (f_X0_judgeLoad (eF x.1.1) (eF x.1.2.1) (eF x.1.2.2.1) (nI (nF x)) (pI x.1.2.2.2.2.1) (nI x.1.2.2.2.2.2.1) x.1.2.2.2.2.2.2 (nI x.2.1.1) (nI x.2.1.2.1) (nI x.2.1.2.2.1) (nI x.2.1.2.2.2) (eF x.2.2.1.1) (eF x.2.2.1.2.1) (eF x.2.2.1.2.2.1) (eF x.2.2.1.2.2.2.1) (nI (nQ x)) x.2.2.2.1 x.2.2.2.2.1 x.2.2.2.2.2.1 x.2.2.2.2.2.2 m = some 0 ∧ _)
  unfold f_X0_judgeLoad
  rcases w_any m (a := 1) (b := 100) (by omega) (by omega) with h | ⟨k, rfl, g1, g2, h⟩
  · rw [show f_X7_isWithin m 1 100 = some 0 from h, Option.bind_some, if_pos rfl]
    exact Or.inl ⟨8, rfl, v8⟩
  · rw [show f_X7_isWithin (nI k) 1 100 = some 1 from h, Option.bind_some, if_neg (by decide)]
    have e : nI x.2.1.1 + nI k = nI (x.2.1.1 + k) := nI_add _ _
    rw [e]
    by_cases hl : x.2.1.1 + k ≤ 100
    · rw [if_pos (show nI (x.2.1.1 + k) ≤ 100 from nI_le (b := 100) hl (by omega))]
      exact Or.inr ⟨rfl, k, rfl, g1, hl⟩
    · rw [if_neg (show ¬ nI (x.2.1.1 + k) ≤ 100 from nI_ge (a := 100) (by omega) (by omega))]
      exact Or.inl ⟨1, rfl, v1⟩
theorem j_press (ho : okB x) (m : Int32) : (∃ z, g_X0_judgePress (eB x) m = some z ∧ isV z ∧ ∀ k, m = nI k → 1 ≤ k → k ≤ 20 → x.2.1.1 < k ∨ nQ x = 12) ∨ (g_X0_judgePress (eB x) m = some 0 ∧ ∃ k, m = nI k ∧ 1 ≤ k ∧ k ≤ 20 ∧ k ≤ x.2.1.1 ∧ nQ x < 12) := by
  have hm : x.2.1.1 ≤ 100 := ho.2.1.1
  have hc : nQ x ≤ 12 := ho.2.2.1.1
  show (∃ z, f_X0_judgePress (eF x.1.1) (eF x.1.2.1) (eF x.1.2.2.1) (nI (nF x)) (pI x.1.2.2.2.2.1) (nI x.1.2.2.2.2.2.1) x.1.2.2.2.2.2.2 (nI x.2.1.1) (nI x.2.1.2.1) (nI x.2.1.2.2.1) (nI x.2.1.2.2.2) (eF x.2.2.1.1) (eF x.2.2.1.2.1) (eF x.2.2.1.2.2.1) (eF x.2.2.1.2.2.2.1) (nI (nQ x)) x.2.2.2.1 x.2.2.2.2.1 x.2.2.2.2.2.1 x.2.2.2.2.2.2 m = some z ∧ isV z ∧ _) ∨ (f_X0_judgePress (eF x.1.1) (eF x.1.2.1) (eF x.1.2.2.1) (nI (nF x)) (pI x.1.2.2.2.2.1) (nI x.1.2.2.2.2.2.1) x.1.2.2.2.2.2.2 (nI x.2.1.1) (nI x.2.1.2.1) (nI x.2.1.2.2.1) (nI x.2.1.2.2.2) (eF x.2.2.1.1) (eF x.2.2.1.2.1) (eF x.2.2.1.2.2.1) (eF x.2.2.1.2.2.2.1) (nI (nQ x)) x.2.2.2.1 x.2.2.2.2.1 x.2.2.2.2.2.1 x.2.2.2.2.2.2 m = some 0 ∧ _)
  unfold f_X0_judgePress
  rcases w_any m (a := 1) (b := 20) (by omega) (by omega) with h | ⟨k, rfl, g1, g2, h⟩
  · rw [show f_X7_isWithin m 1 20 = some 0 from h, Option.bind_some, if_pos rfl]
    refine Or.inl ⟨8, rfl, v8, fun k e1 e2 e3 => ?_⟩
    rw [e1, w_in e2 e3 (by omega)] at h
    exact absurd (Option.some.inj h) (by decide)
  · rw [show f_X7_isWithin (nI k) 1 20 = some 1 from h, Option.bind_some, if_neg (by decide)]
    by_cases hl : k ≤ x.2.1.1
    · rw [if_pos (show nI k ≤ nI x.2.1.1 from nI_le hl (by omega))]
      by_cases h12 : 12 ≤ nQ x
      · rw [if_pos (show 12 ≤ nI (nQ x) from nI_le (a := 12) h12 (by omega))]
        exact Or.inl ⟨1, rfl, v1, fun _ _ _ _ => Or.inr (by omega)⟩
      · rw [if_neg (show ¬ 12 ≤ nI (nQ x) from nI_ge (b := 12) (by omega) (by omega))]
        exact Or.inr ⟨rfl, k, rfl, g1, g2, hl, by omega⟩
    · rw [if_neg (show ¬ nI k ≤ nI x.2.1.1 from nI_ge (b := k) (by omega) (by omega))]
      refine Or.inl ⟨5, rfl, v5, fun k1 e1 e2 e3 => Or.inl ?_⟩
      have := (nI_eq (by omega) (by omega)).mp e1
      omega
theorem j_grade (ho : okB x) (q : Int32) : (∃ z, g_X0_judgeGrading (eB x) q = some z ∧ isV z ∧ ∀ j, q = nI j → j < nQ x → z = 6 ∧ 30 < x.2.2.1.2.1 j) ∨ (g_X0_judgeGrading (eB x) q = some 0 ∧ ∃ j, q = nI j ∧ j < nQ x) := by
  have hc : nQ x ≤ 12 := ho.2.2.1.1
  show (∃ z, f_X0_judgeGrading (eF x.1.1) (eF x.1.2.1) (eF x.1.2.2.1) (nI (nF x)) (pI x.1.2.2.2.2.1) (nI x.1.2.2.2.2.2.1) x.1.2.2.2.2.2.2 (nI x.2.1.1) (nI x.2.1.2.1) (nI x.2.1.2.2.1) (nI x.2.1.2.2.2) (eF x.2.2.1.1) (eF x.2.2.1.2.1) (eF x.2.2.1.2.2.1) (eF x.2.2.1.2.2.2.1) (nI (nQ x)) x.2.2.2.1 x.2.2.2.2.1 x.2.2.2.2.2.1 x.2.2.2.2.2.2 q = some z ∧ isV z ∧ _) ∨ (f_X0_judgeGrading (eF x.1.1) (eF x.1.2.1) (eF x.1.2.2.1) (nI (nF x)) (pI x.1.2.2.2.2.1) (nI x.1.2.2.2.2.2.1) x.1.2.2.2.2.2.2 (nI x.2.1.1) (nI x.2.1.2.1) (nI x.2.1.2.2.1) (nI x.2.1.2.2.2) (eF x.2.2.1.1) (eF x.2.2.1.2.1) (eF x.2.2.1.2.2.1) (eF x.2.2.1.2.2.2.1) (nI (nQ x)) x.2.2.2.1 x.2.2.2.2.1 x.2.2.2.2.2.1 x.2.2.2.2.2.2 q = some 0 ∧ _)
  unfold f_X0_judgeGrading
  rcases hasT_any (M := eF x.2.2.1.1) (T := eF x.2.2.1.2.1) (S := eF x.2.2.1.2.2.1) (C := eF x.2.2.1.2.2.2.1) hc q with h | ⟨j, hj, rfl, h⟩
  · rw [show f_X4_has _ _ _ _ _ q = _ from h, Option.bind_some, if_pos rfl]
    refine Or.inl ⟨8, rfl, v8, fun j e1 e2 => ?_⟩
    rw [e1, h_hasT e2 hc] at h
    exact absurd (Option.some.inj h) (by decide)
  · have h20 := (ho.2.2.1.2 j hj).2.2.1
    rw [show f_X4_has _ _ _ _ _ (nI j) = _ from h, Option.bind_some, if_neg (by decide), show f_X4_hasCool _ _ _ _ _ (nI j) = _ from h_cool hj hc h20, Option.bind_some]
    by_cases hT : x.2.2.1.2.1 j ≤ 30
    · rw [if_pos hT, if_neg (by decide)]
      exact Or.inr ⟨rfl, j, rfl, hj⟩
    · rw [if_neg hT, if_pos rfl]
      refine Or.inl ⟨6, rfl, v6, fun j1 e1 e2 => ⟨rfl, ?_⟩⟩
      have := (nI_eq (by omega) (by omega)).mp e1
      subst this
      omega
theorem j_crush (ho : okB x) (q : Int32) : (∃ z, g_X0_judgeCrush (eB x) q = some z ∧ isV z ∧ ∀ j, q = nI j → j < nQ x → 100 < x.2.1.1 + x.2.2.1.1 j) ∨ (g_X0_judgeCrush (eB x) q = some 0 ∧ ∃ j, q = nI j ∧ j < nQ x ∧ x.2.1.1 + x.2.2.1.1 j ≤ 100) := by
  have hc : nQ x ≤ 12 := ho.2.2.1.1
  have hm : x.2.1.1 ≤ 100 := ho.2.1.1
  show (∃ z, f_X0_judgeCrush (eF x.1.1) (eF x.1.2.1) (eF x.1.2.2.1) (nI (nF x)) (pI x.1.2.2.2.2.1) (nI x.1.2.2.2.2.2.1) x.1.2.2.2.2.2.2 (nI x.2.1.1) (nI x.2.1.2.1) (nI x.2.1.2.2.1) (nI x.2.1.2.2.2) (eF x.2.2.1.1) (eF x.2.2.1.2.1) (eF x.2.2.1.2.2.1) (eF x.2.2.1.2.2.2.1) (nI (nQ x)) x.2.2.2.1 x.2.2.2.2.1 x.2.2.2.2.2.1 x.2.2.2.2.2.2 q = some z ∧ isV z ∧ _) ∨ (f_X0_judgeCrush (eF x.1.1) (eF x.1.2.1) (eF x.1.2.2.1) (nI (nF x)) (pI x.1.2.2.2.2.1) (nI x.1.2.2.2.2.2.1) x.1.2.2.2.2.2.2 (nI x.2.1.1) (nI x.2.1.2.1) (nI x.2.1.2.2.1) (nI x.2.1.2.2.2) (eF x.2.2.1.1) (eF x.2.2.1.2.1) (eF x.2.2.1.2.2.1) (eF x.2.2.1.2.2.2.1) (nI (nQ x)) x.2.2.2.1 x.2.2.2.2.1 x.2.2.2.2.2.1 x.2.2.2.2.2.2 q = some 0 ∧ _)
  unfold f_X0_judgeCrush
  rcases hasT_any (M := eF x.2.2.1.1) (T := eF x.2.2.1.2.1) (S := eF x.2.2.1.2.2.1) (C := eF x.2.2.1.2.2.2.1) hc q with h | ⟨j, hj, rfl, h⟩
  · rw [show f_X4_has _ _ _ _ _ q = _ from h, Option.bind_some, if_pos rfl]
    refine Or.inl ⟨8, rfl, v8, fun j e1 e2 => ?_⟩
    rw [e1, h_hasT e2 hc] at h
    exact absurd (Option.some.inj h) (by decide)
  · obtain ⟨a1, a2, -⟩ := ho.2.2.1.2 j hj
    have e : nI x.2.1.1 + nI (x.2.2.1.1 j) = nI (x.2.1.1 + x.2.2.1.1 j) := nI_add _ _
    rw [show f_X4_has _ _ _ _ _ (nI j) = _ from h, Option.bind_some, if_neg (by decide), show f_X4_massOf _ _ _ _ _ (nI j) = _ from h_mass hj hc, Option.bind_some, e]
    by_cases hl : x.2.1.1 + x.2.2.1.1 j ≤ 100
    · rw [if_pos (show nI (x.2.1.1 + x.2.2.1.1 j) ≤ 100 from nI_le (b := 100) hl (by omega))]
      exact Or.inr ⟨rfl, j, rfl, hj, hl⟩
    · rw [if_neg (show ¬ nI (x.2.1.1 + x.2.2.1.1 j) ≤ 100 from nI_ge (a := 100) (by omega) (by omega))]
      refine Or.inl ⟨1, rfl, v1, fun j1 e1 e2 => ?_⟩
      have := (nI_eq (by omega) (by omega)).mp e1
      subst this
      omega
theorem s_toCome (ho : okB x) : g_X2_minutesToCome (eB x).1 = some (nI (lf x)) := by
  have h : ((g_X2_minutesToCome (eB x).1).bind fun r2 => some r2) = some (nI (lf x)) := r_phases (t := x) (r := (eB x, 0, (0, 0, fun _ => eB x), (fun _ => 0, 0, 0, fun _ => 0, fun _ => 0, fun _ => 0, fun _ => 0, 0), 0, 0, 0, 0)) ho
  cases hg : g_X2_minutesToCome (eB x).1 with
  | none => rw [hg] at h; cases h
  | some v => rw [hg] at h; exact h
theorem o_append {k i v : Nat} (hk : isK k) (hn : nF x < 8) : g_X0_appendPhase (eB x) (nI k) (nI i) (nI v) = some (nI (nF x), eB (appM k i v x)) := by
  have e : f_X2_append (eF x.1.1) (eF x.1.2.1) (eF x.1.2.2.1) (nI (nF x)) (pI x.1.2.2.2.2.1) (nI x.1.2.2.2.2.2.1) x.1.2.2.2.2.2.2 (nI k) (nI i) (nI v) = some (eB (appM k i v x)).1 := by
    unfold f_X2_append
    have g1 : ¬ (nI (nF x) < 0 ∨ 8 ≤ (nI (nF x)).toNatClampNeg) := nI_in (by omega) (by omega)
    rw [if_neg (show ¬ 8 ≤ nI (nF x) from nI_ge (b := 8) (by omega) (by omega)), if_neg g1, if_neg g1, if_neg g1, nI_clamp (by omega), nar_nI (by rcases hk with h | h | h | h <;> omega), upd_eF, upd_eF, upd_eF, nI_1]
    rfl
  show f_X0_appendPhase (eF x.1.1) (eF x.1.2.1) (eF x.1.2.2.1) (nI (nF x)) (pI x.1.2.2.2.2.1) (nI x.1.2.2.2.2.2.1) x.1.2.2.2.2.2.2 (nI x.2.1.1) (nI x.2.1.2.1) (nI x.2.1.2.2.1) (nI x.2.1.2.2.2) (eF x.2.2.1.1) (eF x.2.2.1.2.1) (eF x.2.2.1.2.2.1) (eF x.2.2.1.2.2.2.1) (nI (nQ x)) x.2.2.2.1 x.2.2.2.2.1 x.2.2.2.2.2.1 x.2.2.2.2.2.2 (nI k) (nI i) (nI v) = _
  unfold f_X0_appendPhase
  rw [show f_X2_append _ _ _ _ _ _ _ (nI k) (nI i) (nI v) = _ from e]
  show some (nI (nF x + 1) - 1, _) = _
  rw [show nI (nF x + 1) - 1 = nI (nF x) from nI_pred _]
  rfl
theorem o_cut (ho : okB x) {q : Nat} (hq : q < nF x) : g_X0_cutPhase (eB x) (nI q) = some (nI (nF x - 1), eB (cutM q x)) := by
  have h8 : nF x ≤ 8 := ho.1.1
  have e : f_X2_remove (eF x.1.1) (eF x.1.2.1) (eF x.1.2.2.1) (nI (nF x)) (pI x.1.2.2.2.2.1) (nI x.1.2.2.2.2.2.1) x.1.2.2.2.2.2.2 (nI q) = some (eB (cutM q x)).1 := by
    unfold f_X2_remove
    rw [h_hasC hq h8, Option.bind_some, if_neg (by decide), s_remC 300 q _ _ _ _ _ _ _ _ h8 ho.1.2.1 (by omega) hq]
    rfl
  show f_X0_cutPhase (eF x.1.1) (eF x.1.2.1) (eF x.1.2.2.1) (nI (nF x)) (pI x.1.2.2.2.2.1) (nI x.1.2.2.2.2.2.1) x.1.2.2.2.2.2.2 (nI x.2.1.1) (nI x.2.1.2.1) (nI x.2.1.2.2.1) (nI x.2.1.2.2.2) (eF x.2.2.1.1) (eF x.2.2.1.2.1) (eF x.2.2.1.2.2.1) (eF x.2.2.1.2.2.2.1) (nI (nQ x)) x.2.2.2.1 x.2.2.2.2.1 x.2.2.2.2.2.1 x.2.2.2.2.2.2 (nI q) = _
  unfold f_X0_cutPhase
  rw [show f_X2_remove _ _ _ _ _ _ _ (nI q) = _ from e]
  rfl
theorem o_start (ho : okB x) (hn : 0 < nF x) : g_X0_startCycle (eB x) = some (nI (lf (begM x)), eB (begM x)) := by
  show f_X0_startCycle (eF x.1.1) (eF x.1.2.1) (eF x.1.2.2.1) (nI (nF x)) (pI x.1.2.2.2.2.1) (nI x.1.2.2.2.2.2.1) x.1.2.2.2.2.2.2 (nI x.2.1.1) (nI x.2.1.2.1) (nI x.2.1.2.2.1) (nI x.2.1.2.2.2) (eF x.2.2.1.1) (eF x.2.2.1.2.1) (eF x.2.2.1.2.2.1) (eF x.2.2.1.2.2.2.1) (nI (nQ x)) x.2.2.2.1 x.2.2.2.2.1 x.2.2.2.2.2.1 x.2.2.2.2.2.2 = _
  unfold f_X0_startCycle f_X2_begin
  show ((g_X2_minutesToCome (eB (begM x)).1).bind fun r4 => some (r4, eB (begM x))) = _
  rw [s_toCome (begM_ok ho hn), Option.bind_some]
theorem o_stop (ho : okB x) : g_X0_stopCycle (eB x) = some (nI (lf x), eB (endM x)) := by
  show ((g_X2_minutesToCome (eB x).1).bind fun r4 => some (r4, eB (endM x))) = _
  rw [s_toCome ho, Option.bind_some]
theorem o_load (ho : okB x) {m : Nat} (hm : 1 ≤ m) (hl : x.2.1.1 + m ≤ 100) : g_X0_loadRock (eB x) (nI m) = some (nI (tmp (loadM m x)), eB (loadM m x)) := by
  show f_X0_loadRock (eF x.1.1) (eF x.1.2.1) (eF x.1.2.2.1) (nI (nF x)) (pI x.1.2.2.2.2.1) (nI x.1.2.2.2.2.2.1) x.1.2.2.2.2.2.2 (nI x.2.1.1) (nI x.2.1.2.1) (nI x.2.1.2.2.1) (nI x.2.1.2.2.2) (eF x.2.2.1.1) (eF x.2.2.1.2.1) (eF x.2.2.1.2.2.1) (eF x.2.2.1.2.2.2.1) (nI (nQ x)) x.2.2.2.1 x.2.2.2.2.1 x.2.2.2.2.2.1 x.2.2.2.2.2.2 (nI m) = _
  unfold f_X0_loadRock
  rw [show f_X1_add _ _ _ _ (nI m) = _ from s_add ho.2.1 hm hl]
  rfl
theorem o_press (ho : okB x) {m : Nat} (hl : m ≤ x.2.1.1) (hc : nQ x < 12) : g_X0_pressPat (eB x) (nI m) = some (nI (nQ x), eB (prsM m x)) := by
  obtain ⟨a1, a2, a3, a4⟩ := ho.2.1
  have e1 : f_X1_cracksOfPat (nI x.2.1.1) (nI x.2.1.2.1) (nI x.2.1.2.2.1) (nI x.2.1.2.2.2) = some (nI (crkM x)) := by
    unfold f_X1_cracksOfPat crkM
    rw [show nI x.2.1.2.2.2 / 10 = nI (x.2.1.2.2.2 / 10) from pk_div (d := 10) (by omega) (by omega) (by omega)]
    by_cases h : tmp x ≤ 100
    · rw [if_pos (show nI x.2.1.2.1 ≤ 100 from nI_le (b := 100) h (by omega)), if_pos h]
      rw [show nI (x.2.1.2.2.2 / 10) + 0 = nI (x.2.1.2.2.2 / 10 + 0) from nI_add _ 0]
    · rw [if_neg (show ¬ nI x.2.1.2.1 ≤ 100 from nI_ge (a := 100) (Nat.lt_of_not_le h) (by omega)), if_neg h]
      rw [show nI (x.2.1.2.2.2 / 10) + 1 = nI (x.2.1.2.2.2 / 10 + 1) from nI_add _ 1]
  have e2 : f_X4_append (eF x.2.2.1.1) (eF x.2.2.1.2.1) (eF x.2.2.1.2.2.1) (eF x.2.2.1.2.2.2.1) (nI (nQ x)) (nI m) (nI x.2.1.2.1) (nI x.2.1.2.2.1) (nI (crkM x)) = some (eB (prsM m x)).2.2.1 := by
    unfold f_X4_append
    have g1 : ¬ (nI (nQ x) < 0 ∨ 12 ≤ (nI (nQ x)).toNatClampNeg) := nI_in (by omega) (by omega)
    rw [if_neg (show ¬ 12 ≤ nI (nQ x) from nI_ge (b := 12) (by omega) (by omega)), if_neg g1, if_neg g1, if_neg g1, if_neg g1, nI_clamp (by omega), upd_eF, upd_eF, upd_eF, upd_eF, nI_1]
    rfl
  show f_X0_pressPat (eF x.1.1) (eF x.1.2.1) (eF x.1.2.2.1) (nI (nF x)) (pI x.1.2.2.2.2.1) (nI x.1.2.2.2.2.2.1) x.1.2.2.2.2.2.2 (nI x.2.1.1) (nI x.2.1.2.1) (nI x.2.1.2.2.1) (nI x.2.1.2.2.2) (eF x.2.2.1.1) (eF x.2.2.1.2.1) (eF x.2.2.1.2.2.1) (eF x.2.2.1.2.2.2.1) (nI (nQ x)) x.2.2.2.1 x.2.2.2.2.1 x.2.2.2.2.2.1 x.2.2.2.2.2.2 (nI m) = _
  unfold f_X0_pressPat
  rw [show f_X1_cracksOfPat _ _ _ _ = _ from e1, Option.bind_some, show f_X4_append _ _ _ _ _ (nI m) _ _ (nI (crkM x)) = _ from e2]
  show some (nI (nQ x + 1) - 1, ((eB x).1, (nI x.2.1.1 - nI m, nI x.2.1.2.1, nI x.2.1.2.2.1, nI x.2.1.2.2.2), _)) = _
  rw [show nI (nQ x + 1) - 1 = nI (nQ x) from nI_pred _, pk_sub hl]
  rfl
theorem grdP_lt (q : Nat) : grdP x q ≤ 4 := by
  unfold grdP
  split
  · split
    · split
      · split <;> omega
      · omega
    · omega
  · omega
theorem i2c_g : ∀ g, g < 5 → ((97 + nI g).toUInt32 % 65536).toInt32 = nI (97 + g) := by decide +kernel
theorem o_grade (ho : okB x) {q : Nat} (hq : q < nQ x) : g_X0_takeGrade (eB x) (nI q) = some (nI (97 + grdP x q), eB (grdM q x)) := by
  have hc : nQ x ≤ 12 := ho.2.2.1.1
  have hg := grdP_lt (x := x) q
  have e1 : f_X4_gradeOf (eF x.2.2.1.1) (eF x.2.2.1.2.1) (eF x.2.2.1.2.2.1) (eF x.2.2.1.2.2.2.1) (nI (nQ x)) (nI q) = some (nI (grdP x q)) := by
    unfold f_X4_gradeOf
    rw [h_fm hq hc, Option.bind_some]
    unfold grdP
    by_cases h1 : fmI x.2.2.1 q < 80
    · rw [if_pos h1, if_pos h1]
      by_cases h2 : fmI x.2.2.1 q < 60
      · rw [if_pos h2, if_pos h2]
        by_cases h3 : fmI x.2.2.1 q < 40
        · rw [if_pos h3, if_pos h3]
          by_cases h4 : fmI x.2.2.1 q < 20
          · rw [if_pos h4, if_pos h4]; rfl
          · rw [if_neg h4, if_neg h4]; rfl
        · rw [if_neg h3, if_neg h3]; rfl
      · rw [if_neg h2, if_neg h2]; rfl
    · rw [if_neg h1, if_neg h1]; rfl
  have e2 : f_X5_count x.2.2.2.1 x.2.2.2.2.1 x.2.2.2.2.2.1 x.2.2.2.2.2.2 (nI (grdP x q)) (nI (x.2.2.1.1 q)) = some (eB (grdM q x)).2.2.2 := by
    unfold f_X5_count
    have g1 : ¬ (nI (grdP x q) < 0 ∨ 5 ≤ (nI (grdP x q)).toNatClampNeg) := nI_in (by omega) (by omega)
    rw [show f_X7_isWithin (nI (grdP x q)) 0 4 = some 1 from w_in (a := 0) (b := 4) (by omega) hg (by omega), Option.bind_some, if_neg (by decide), if_neg g1, if_neg g1, nI_clamp (by omega)]
    rfl
  show f_X0_takeGrade (eF x.1.1) (eF x.1.2.1) (eF x.1.2.2.1) (nI (nF x)) (pI x.1.2.2.2.2.1) (nI x.1.2.2.2.2.2.1) x.1.2.2.2.2.2.2 (nI x.2.1.1) (nI x.2.1.2.1) (nI x.2.1.2.2.1) (nI x.2.1.2.2.2) (eF x.2.2.1.1) (eF x.2.2.1.2.1) (eF x.2.2.1.2.2.1) (eF x.2.2.1.2.2.2.1) (nI (nQ x)) x.2.2.2.1 x.2.2.2.2.1 x.2.2.2.2.2.1 x.2.2.2.2.2.2 (nI q) = _
  unfold f_X0_takeGrade
  rw [show f_X4_gradeOf _ _ _ _ _ (nI q) = _ from e1, Option.bind_some, show f_X4_massOf _ _ _ _ _ (nI q) = _ from h_mass hq hc, Option.bind_some, show f_X5_count _ _ _ _ (nI (grdP x q)) _ = _ from e2]
  rw [s_remove hc hq, i2c_g _ (by omega)]
  rfl
theorem o_crush (ho : okB x) {q : Nat} (hq : q < nQ x) (hl : x.2.1.1 + x.2.2.1.1 q ≤ 100) : g_X0_crushPat (eB x) (nI q) = some (nI (x.2.1.1 + x.2.2.1.1 q), eB (crsM q x)) := by
  have hc : nQ x ≤ 12 := ho.2.2.1.1
  show f_X0_crushPat (eF x.1.1) (eF x.1.2.1) (eF x.1.2.2.1) (nI (nF x)) (pI x.1.2.2.2.2.1) (nI x.1.2.2.2.2.2.1) x.1.2.2.2.2.2.2 (nI x.2.1.1) (nI x.2.1.2.1) (nI x.2.1.2.2.1) (nI x.2.1.2.2.2) (eF x.2.2.1.1) (eF x.2.2.1.2.1) (eF x.2.2.1.2.2.1) (eF x.2.2.1.2.2.2.1) (nI (nQ x)) x.2.2.2.1 x.2.2.2.2.1 x.2.2.2.2.2.1 x.2.2.2.2.2.2 (nI q) = _
  unfold f_X0_crushPat
  rw [show f_X4_massOf _ _ _ _ _ (nI q) = _ from h_mass hq hc, Option.bind_some, show f_X1_add _ _ _ _ (nI (x.2.2.1.1 q)) = _ from s_add ho.2.1 (ho.2.2.1.2 q hq).1 hl]
  rw [s_remove hc hq]
  rfl
end JU
