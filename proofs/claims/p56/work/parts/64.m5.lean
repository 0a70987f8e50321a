/-! the answers that are found on the trial -/
theorem w_in {k a b : Nat} (h1 : a ≤ k) (h2 : k ≤ b) (hb : b < 1000) : f_X7_isWithin (nI k) (nI a) (nI b) = some 1 := by
  unfold f_X7_isWithin
  rw [if_neg (nI_nlt h1 (by omega)), if_neg (nI_nlt h2 (by omega))]
section RT
variable {x t : MB} {r : R8}
theorem r_left (ho : okB x) : g_X7_minutesLeft (sS x t r) = some (nI (lf x), sS x (itN (lf x) x) r) := by
  obtain ⟨zn, zv, zh, zx, zk, zd, ze, zc⟩ := r
  have loop : ∀ (fu i : Nat) (y : MB), okB y → lf y < fu → i + lf y ≤ 240 → f_X7_minutesLeft_13 (eB x) zn zv zh zx zk zd ze zc fu (nI i) (eB y) = some (nI (i + lf y), sS x (itN (lf y) y) (zn, zv, zh, zx, zk, zd, ze, zc)) := by
    intro fu
    induction fu with
    | zero => intro i y _ h; omega
    | succ fu ih =>
      intro i y hy h1 h2
      rw [f_X7_minutesLeft_13]
      by_cases h : 240 ≤ i
      · rw [if_pos (show 240 ≤ nI i from nI_le (a := 240) h (by omega)), show lf y = 0 by omega]
        rfl
      · rw [if_neg (show ¬ 240 ≤ nI i from nI_ge (b := 240) (by omega) (by omega)), s_under hy, s_pm hy]
        simp only [Option.bind_some]
        by_cases hl : lf y = 0
        · rw [if_pos hl, if_pos rfl, hl]
          rfl
        · have e := lf_pm hy
          rw [if_neg hl, if_neg (by decide), nI_1, ih (i + 1) (pmM y) (pmM_ok hy) (by omega) (by omega), e, show i + 1 + (lf y - 1) = i + lf y by omega]
          rw [show itN (lf y) y = itN (lf y - 1) (pmM y) by
            rw [show lf y = lf y - 1 + 1 by omega]
            rfl]
  show f_X7_minutesLeft (eB x) (eB t) zn zv zh zx zk zd ze zc = _
  unfold f_X7_minutesLeft
  rw [s_copy ho]
  have h := loop 300 0 x ho (by have := (lf_facts ho).1; omega) (by have := (lf_facts ho).1; omega)
  rw [nI_0, Nat.zero_add] at h
  exact h
theorem r_try (ho : okB x) {k : Nat} (hk : k ≤ 240) : f_X7_tryMinutes (sS x t r).1 (sS x t r).2.1 (sS x t r).2.2.1 (sS x t r).2.2.2.1 (sS x t r).2.2.2.2.1 (sS x t r).2.2.2.2.2.1 (sS x t r).2.2.2.2.2.2.1 (sS x t r).2.2.2.2.2.2.2.1 (sS x t r).2.2.2.2.2.2.2.2.1 (sS x t r).2.2.2.2.2.2.2.2.2 (nI k) = some (.inl (), sS x (itN k x) r) := by
  unfold f_X7_tryMinutes
  rw [show f_X7_isWithin (nI k) 0 240 = some 1 from w_in (a := 0) (b := 240) (by omega) hk (by omega)]
  simp only [Option.bind_some]
  rw [if_neg (by decide), show g_X0_copyFrom (sS x t r).2.1 (sS x t r).1 = some (eB x) from s_copy ho]
  simp only [Option.bind_some]
  rw [s_pms ho hk]
  rfl
theorem r_tempAfter (ho : okB x) {k : Nat} (hk : k ≤ 240) : g_X7_temperatureAfter (sS x t r) (nI k) = some (.inl (nI (tmp (itN k x))), sS x (itN k x) r) := by
  unfold g_X7_temperatureAfter f_X7_temperatureAfter
  rw [r_try ho hk]
  rfl
theorem r_smoothAfter (ho : okB x) {k : Nat} (hk : k ≤ 240) : g_X7_smoothnessAfter (sS x t r) (nI k) = some (.inl (nI (itN k x).2.1.2.2.1), sS x (itN k x) r) := by
  unfold g_X7_smoothnessAfter f_X7_smoothnessAfter
  rw [r_try ho hk]
  rfl
def pkM : Nat → Nat → MB → Nat
  | 0, p, _ => p
  | k + 1, p, y => pkM k (if p < tmp (pmM y) then tmp (pmM y) else p) (pmM y)
theorem pkM_ge : ∀ (k p : Nat) (y : MB), p ≤ pkM k p y ∧ ∀ j, j ≤ k → tmp y ≤ p → tmp (itN j y) ≤ pkM k p y := by
  intro k
  induction k with
  | zero =>
    intro p y
    refine ⟨Nat.le_refl _, fun j hj hp => ?_⟩
    rw [show j = 0 by omega]
    exact hp
  | succ k ih =>
    intro p y
    obtain ⟨h1, h2⟩ := ih (if p < tmp (pmM y) then tmp (pmM y) else p) (pmM y)
    have h3 : p ≤ (if p < tmp (pmM y) then tmp (pmM y) else p) ∧ tmp (pmM y) ≤ (if p < tmp (pmM y) then tmp (pmM y) else p) := by split <;> omega
    refine ⟨Nat.le_trans h3.1 h1, fun j hj hp => ?_⟩
    cases j with
    | zero => exact Nat.le_trans hp (Nat.le_trans h3.1 h1)
    | succ j => exact h2 j (by omega) h3.2
theorem pkM_le : ∀ (k p : Nat) (y : MB), okB y → p ≤ 200 → pkM k p y ≤ 200 := by
  intro k
  induction k with
  | zero => intro p y _ h; exact h
  | succ k ih =>
    intro p y hy hp
    refine ih _ _ (pmM_ok hy) ?_
    have h3 : tmp (pmM y) ≤ 200 := (pmM_ok hy).2.1.2.1
    split <;> omega
theorem r_peak (ho : okB x) : g_X7_peakTemperature (sS x t r) = some (nI (pkM (lf x) (tmp x) x), sS x (itN (lf x) x) r) := by
  obtain ⟨zn, zv, zh, zx, zk, zd, ze, zc⟩ := r
  have loop : ∀ (fu i p : Nat) (y : MB), okB y → p ≤ 200 → lf y < fu → i + lf y ≤ 240 → f_X7_peakTemperature_24 fu (nI p) (nI i) (eB x) (eB y) zn zv zh zx zk zd ze zc = some (nI (pkM (lf y) p y), sS x (itN (lf y) y) (zn, zv, zh, zx, zk, zd, ze, zc)) := by
    intro fu
    induction fu with
    | zero => intro i p y _ _ h; omega
    | succ fu ih =>
      intro i p y hy hp h1 h2
      rw [f_X7_peakTemperature_24]
      by_cases h : 240 ≤ i
      · rw [if_pos (show 240 ≤ nI i from nI_le (a := 240) h (by omega)), show lf y = 0 by omega]
        rfl
      · rw [if_neg (show ¬ 240 ≤ nI i from nI_ge (b := 240) (by omega) (by omega)), s_under hy, s_pm hy]
        simp only [Option.bind_some]
        by_cases hl : lf y = 0
        · rw [if_pos hl, if_pos rfl, hl]
          rfl
        · have e := lf_pm hy
          have h3 : tmp (pmM y) ≤ 200 := (pmM_ok hy).2.1.2.1
          rw [if_neg hl, if_neg (by decide), nI_1]
          have e2 : (if nI p < (eB (pmM y)).2.1.2.1 then (eB (pmM y)).2.1.2.1 else nI p) = nI (if p < tmp (pmM y) then tmp (pmM y) else p) := by
            show (if nI p < nI (tmp (pmM y)) then nI (tmp (pmM y)) else nI p) = _
            by_cases h9 : p < tmp (pmM y)
            · rw [if_pos (nI_lt h9 (by omega)), if_pos h9]
            · rw [if_neg (nI_nlt (by omega) (by omega)), if_neg h9]
          rw [e2, ih (i + 1) _ (pmM y) (pmM_ok hy) (by split <;> omega) (by omega) (by omega), e]
          rw [show itN (lf y) y = itN (lf y - 1) (pmM y) by
            rw [show lf y = lf y - 1 + 1 by omega]
            rfl, show pkM (lf y) p y = pkM (lf y - 1) (if p < tmp (pmM y) then tmp (pmM y) else p) (pmM y) by
            rw [show lf y = lf y - 1 + 1 by omega]
            rfl]
  show f_X7_peakTemperature (eB x) (eB t) zn zv zh zx zk zd ze zc = _
  unfold f_X7_peakTemperature
  rw [s_copy ho]
  have h := loop 300 0 (tmp x) x ho ho.2.1.2.1 (by have := (lf_facts ho).1; omega) (by have := (lf_facts ho).1; omega)
  rw [nI_0] at h
  exact h
def uc (t : Nat) : Nat := (t - 26) / 5
theorem nQ_pm (y : MB) : nQ (pmM y) = nQ y := by
  show (pmM y).2.2.1.2.2.2.2 = _
  rw [tab_pm]
  rfl
theorem T_pm (y : MB) {i : Nat} (hi : i < nQ y) : (pmM y).2.2.1.2.1 i = cdN (y.2.2.1.2.1 i) := by
  rw [tab_pm]
  show coolN y.2.2.1.2.1 y.2.2.1.2.2.2.2 i = _
  unfold coolN
  rw [if_pos hi]
theorem r_until (ho : okB x) {i : Nat} (hi : i < nQ x) : ∃ t1, okB t1 ∧ g_X7_minutesUntilCool (sS x t r) (nI i) = some (.inl (nI (uc (x.2.2.1.2.1 i))), sS x t1 r) := by
  have loop : ∀ (fu j : Nat) (y : MB), okB y → i < nQ y → uc (y.2.2.1.2.1 i) < fu → j + uc (y.2.2.1.2.1 i) ≤ 239 → ∃ t1, okB t1 ∧ f_X7_minutesUntilCool_18 (nI i) fu (nI j) (eB x) (eB y) r.1 r.2.1 r.2.2.1 r.2.2.2.1 r.2.2.2.2.1 r.2.2.2.2.2.1 r.2.2.2.2.2.2.1 r.2.2.2.2.2.2.2 = some (.inl (nI (j + uc (y.2.2.1.2.1 i))), sS x t1 r) := by
    intro fu
    induction fu with
    | zero => intro j y _ _ h; omega
    | succ fu ih =>
      intro j y hy hiy h1 h2
      have h12 : nQ y ≤ 12 := hy.2.2.1.1
      have h20 := (hy.2.2.1.2 i hiy).2.2.1
      rw [f_X7_minutesUntilCool_18]
      rw [if_neg (show ¬ 240 ≤ nI j from nI_ge (b := 240) (by omega) (by omega)), show g_X4_hasCool (eB y).2.2.1 (nI i) = _ from h_cool hiy h12 h20, s_pm hy]
      simp only [Option.bind_some]
      by_cases hl : y.2.2.1.2.1 i ≤ 30
      · rw [if_pos hl, if_neg (by decide)]
        have e : uc (y.2.2.1.2.1 i) = 0 := by unfold uc; omega
        rw [e]
        exact ⟨y, hy, rfl⟩
      · rw [if_neg hl, if_pos rfl, nI_1]
        have e : (pmM y).2.2.1.2.1 i = y.2.2.1.2.1 i - 5 := by
          rw [T_pm y hiy]
          unfold cdN
          rw [if_neg (by omega), if_pos (by omega)]
        have e2 : uc (y.2.2.1.2.1 i - 5) + 1 = uc (y.2.2.1.2.1 i) := by unfold uc; omega
        obtain ⟨t1, g1, g2⟩ := ih (j + 1) (pmM y) (pmM_ok hy) (by rw [nQ_pm]; exact hiy) (by rw [e]; omega) (by rw [e]; omega)
        rw [e] at g2
        refine ⟨t1, g1, ?_⟩
        rw [g2, show j + 1 + uc (y.2.2.1.2.1 i - 5) = j + uc (y.2.2.1.2.1 i) by omega]
  have h20 := (ho.2.2.1.2 i hi).2.2.1
  have h3 : uc (x.2.2.1.2.1 i) ≤ 34 := by unfold uc; omega
  obtain ⟨t1, g1, g2⟩ := loop 300 0 x ho hi (by omega) (by omega)
  refine ⟨t1, g1, ?_⟩
  unfold g_X7_minutesUntilCool f_X7_minutesUntilCool
  rw [r_req ho hi]
  show ((g_X0_copyFrom (eB t) (eB x)).bind fun c11 => _) = _
  rw [s_copy ho]
  rw [nI_0, Nat.zero_add] at g2
  exact g2
theorem r_untilDiv (ho : okB x) {i : Nat} (hi : i < nQ x) : g_X7_minutesUntilCoolByDivision (sS x t r) (nI i) = some (.inl (nI (uc (x.2.2.1.2.1 i))), sS x t r) := by
  have h12 : nQ x ≤ 12 := ho.2.2.1.1
  have h20 := (ho.2.2.1.2 i hi).2.2.1
  unfold g_X7_minutesUntilCoolByDivision f_X7_minutesUntilCoolByDivision
  rw [r_req ho hi]
  show (if nI i < 0 ∨ 12 ≤ (nI i).toNatClampNeg then none else some (Sum.inl ((((if 0 < eF x.2.2.1.2.1 (nI i).toNatClampNeg - 30 then eF x.2.2.1.2.1 (nI i).toNatClampNeg - 30 else 0) + 5) - 1) / 5), _)) = _
  rw [if_neg (nI_in (by omega) (by omega)), nI_clamp (by omega)]
  have e : (if 0 < eF x.2.2.1.2.1 i - 30 then eF x.2.2.1.2.1 i - 30 else 0) = nI (x.2.2.1.2.1 i - 30) := sub_max (b := 30) (by omega) (by omega)
  rw [e, show nI (x.2.2.1.2.1 i - 30) + 5 = nI (x.2.2.1.2.1 i - 30 + 5) from nI_add _ 5, show nI (x.2.2.1.2.1 i - 30 + 5) - 1 = nI (x.2.2.1.2.1 i - 30 + 5 - 1) from pk_sub (b := 1) (by omega), show nI (x.2.2.1.2.1 i - 30 + 5 - 1) / 5 = nI ((x.2.2.1.2.1 i - 30 + 5 - 1) / 5) from pk_div (d := 5) (by omega) (by omega) (by omega)]
  have e2 : (x.2.2.1.2.1 i - 30 + 5 - 1) / 5 = uc (x.2.2.1.2.1 i) := by unfold uc; omega
  rw [e2]
/-- the law's nextCool, from the end: k pats before the last -/
def ncR (T : NN) (c : Nat) : Nat → Int32
  | 0 => -1000
  | k + 1 => if T (c - (k + 1)) ≤ 30 then nI (c - (k + 1)) else ncR T c k
theorem r_nextCool (ho : okB x) {i : Nat} (hi : i < nQ x) : f_L_nextCool (sS x t r) (nI i) = some (ncR x.2.2.1.2.1 (nQ x) (nQ x - i), sS x t r) := by
  have h12 : nQ x ≤ 12 := ho.2.2.1.1
  have loop : ∀ (fu j : Nat), nQ x < fu + j → j ≤ nQ x → f_X4_firstCoolFrom_2 (eF x.2.2.1.1) (eF x.2.2.1.2.1) (eF x.2.2.1.2.2.1) (eF x.2.2.1.2.2.2.1) (nI x.2.2.1.2.2.2.2) (nI i) fu (nI j) = some (if ncR x.2.2.1.2.1 (nQ x) (nQ x - j) = -1000 then -1 else ncR x.2.2.1.2.1 (nQ x) (nQ x - j)) := by
    intro fu
    induction fu with
    | zero => intro j h1 h2; omega
    | succ fu ih =>
      intro j h1 h2
      rw [f_X4_firstCoolFrom_2]
      by_cases h : nQ x ≤ j
      · rw [if_pos (show nI x.2.2.1.2.2.2.2 ≤ nI j from nI_le h (by omega)), show nQ x - j = 0 by omega]
        rfl
      · have h20 := (ho.2.2.1.2 j (show j < nQ x by omega)).2.2.1
        rw [if_neg (show ¬ nI x.2.2.1.2.2.2.2 ≤ nI j from nI_ge (b := nQ x) (by omega) (by omega)), h_cool (t := x.2.2.1) (show j < nQ x by omega) h12 h20]
        simp only [Option.bind_some]
        have e : nQ x - j = nQ x - (j + 1) + 1 := by omega
        have e2 : nQ x - (nQ x - (j + 1) + 1) = j := by omega
        rw [e, ncR, e2]
        by_cases hT : x.2.2.1.2.1 j ≤ 30
        · rw [if_pos hT, if_neg (by decide), if_pos hT, if_neg]
          intro h9
          exact absurd (h9 ▸ nI_pos (n := j) (by omega)) (by decide)
        · rw [if_neg hT, if_pos rfl, if_neg hT, nI_1, ih (j + 1) (by omega) (by omega)]
  have h := loop 300 i (by omega) (by omega)
  unfold f_L_nextCool g_X7_nextCool f_X7_nextCool
  rw [r_req ho hi]
  show (((f_X4_firstCoolFrom_2 (eF x.2.2.1.1) (eF x.2.2.1.2.1) (eF x.2.2.1.2.2.1) (eF x.2.2.1.2.2.2.1) (nI x.2.2.1.2.2.2.2) (nI i) 300 (nI i)).bind fun r5 => (if r5 = (-1) then some (Sum.inr "java/util/NoSuchElementException", sS x t r) else some (Sum.inl r5, sS x t r))) : Option ((Int32 ⊕ String) × SX7)).bind _ = _
  rw [h]
  have hne : ∀ k, ncR x.2.2.1.2.1 (nQ x) k ≠ -1 := by
    intro k
    induction k with
    | zero => exact (by decide : (-1000 : Int32) ≠ -1)
    | succ k ih =>
      rw [ncR]
      split
      · intro h9
        exact absurd (h9 ▸ nI_pos (n := nQ x - (k + 1)) (by omega)) (by decide)
      · exact ih
  simp only [Option.bind_some]
  by_cases h9 : ncR x.2.2.1.2.1 (nQ x) (nQ x - i) = -1000
  · rw [if_pos h9, if_pos rfl, h9]
    rfl
  · rw [if_neg h9, if_neg (hne _)]
    rfl
theorem r_nextCool0 (ho : okB x) : f_L_nextCool (sS x t r) (nI (nQ x)) = some (-1000, sS x t r) := by
  have h12 : nQ x ≤ 12 := ho.2.2.1.1
  have e : f_X7_requirePat (sS x t r).1 (sS x t r).2.1 (sS x t r).2.2.1 (sS x t r).2.2.2.1 (sS x t r).2.2.2.2.1 (sS x t r).2.2.2.2.2.1 (sS x t r).2.2.2.2.2.2.1 (sS x t r).2.2.2.2.2.2.2.1 (sS x t r).2.2.2.2.2.2.2.2.1 (sS x t r).2.2.2.2.2.2.2.2.2 (nI (nQ x)) = some (.inr "java/lang/IndexOutOfBoundsException", sS x t r) := by
    show ((f_X4_has (eF x.2.2.1.1) (eF x.2.2.1.2.1) (eF x.2.2.1.2.2.1) (eF x.2.2.1.2.2.2.1) (nI x.2.2.1.2.2.2.2) (nI (nQ x))).bind fun r2 => _) = _
    rw [h_hasT0 (Nat.le_refl _) (show nQ x < 100 by omega)]
    rfl
  unfold f_L_nextCool g_X7_nextCool f_X7_nextCool
  rw [e]
  rfl
end RT
