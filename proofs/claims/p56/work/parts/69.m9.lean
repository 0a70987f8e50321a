/-! isCycle and arePats hold -/
def afN (x : MB) : NN := fun j => if lf x ≠ 0 ∧ j ≤ x.1.2.2.2.2.1 - 1 then 0 else x.1.2.1 j
theorem nI_m1000 {k : Nat} (h : k < 1000) : nI k ≠ -1000 := by
  intro h9
  exact absurd (h9 ▸ nI_pos (n := k) (by omega)) (by decide)
section CY
variable {x : MB}
theorem prI_le (ho : okB x) {j : Nat} (hj : j < 100) : nI j ≤ prI x ↔ (lf x ≠ 0 ∧ j ≤ x.1.2.2.2.2.1 - 1) := by
  have hp : x.1.2.2.2.2.1 ≤ nF x := ho.1.2.2.2.1
  have h8 : nF x ≤ 8 := ho.1.1
  unfold prI
  by_cases h : lf x = 0
  · rw [if_pos h]
    constructor
    · intro h9
      exact absurd (Int32.le_trans (nI_pos' (n := j) (by omega)) h9) (by decide)
    · intro h9; exact absurd h h9.1
  · rw [if_neg h, nI_leI (by omega) (by omega)]
    exact ⟨fun h9 => ⟨h, h9⟩, fun h9 => h9.2⟩
theorem p_34 (ho : okB x) {t : MB} {r : R8} : ∀ (fu i : Nat), nF x < fu + i → i ≤ nF x → f_L_isCycle_34 fu (sS x t r) (prI x) (nI (nF x - 1 + sU (lnN x.1.2.1) i)) (nI (lf x)) (nI (sU (afN x) i)) (nI i) = f_L_isCycle_105 (sS x t r) (prI x) (nI (nF x - 1 + sU (lnN x.1.2.1) (nF x))) (nI (lf x)) (nI (sU (afN x) (nF x))) (if lf x = 0 then 0 else 1) (if lf x = 0 then 0 else 1) := by
  have h8 : nF x ≤ 8 := ho.1.1
  have hp : x.1.2.2.2.2.1 ≤ nF x := ho.1.2.2.2.1
  intro fu
  induction fu with
  | zero => intro i h1 h2; omega
  | succ fu ih =>
    intro i h1 h2
    rw [f_L_isCycle_34, r_phaseCount, Option.bind_some]
    by_cases hc : nF x ≤ i
    · rw [if_pos (nI_le hc (by omega)), r_running ho, Option.bind_some, show i = nF x by omega]
      by_cases h : lf x = 0
      · rw [if_pos (show prI x = -1000 from if_pos h), if_pos h]
      · rw [if_neg (show ¬ prI x = -1000 by unfold prI; rw [if_neg h]; exact nI_m1000 (by omega)), if_neg h]
    · have hi : i < nF x := by omega
      obtain ⟨-, a1, a2, -⟩ := ho.1.2.2.1 i hi
      have h9 := ih (i + 1) (by omega) (by omega)
      have e1 : sU (lnN x.1.2.1) (i + 1) = sU (lnN x.1.2.1) i + (if x.1.2.1 i ≤ 9 then 4 else 5) := rfl
      have e2 : sU (afN x) (i + 1) = sU (afN x) i + (if lf x ≠ 0 ∧ i ≤ x.1.2.2.2.2.1 - 1 then 0 else x.1.2.1 i) := rfl
      rw [e1, e2] at h9
      rw [if_neg (nI_ge (by omega) (by omega)), r_minutes ho hi, bT_inl, nI_1]
      by_cases h3 : x.1.2.1 i ≤ 9
      · rw [if_pos (show nI (x.1.2.1 i) ≤ 9 from nI_le (b := 9) h3 (by omega))]
        rw [if_pos h3] at h9
        by_cases h4 : lf x ≠ 0 ∧ i ≤ x.1.2.2.2.2.1 - 1
        · rw [if_pos ((prI_le ho (by omega)).mpr h4)]
          rw [if_pos h4] at h9
          rw [← h9, show nI (nF x - 1 + sU (lnN x.1.2.1) i) + 4 = nI (nF x - 1 + (sU (lnN x.1.2.1) i + 4)) from nI_add _ 4, show nI (sU (afN x) i) + 0 = nI (sU (afN x) i + 0) from nI_add _ 0]
        · rw [if_neg fun h => h4 ((prI_le ho (by omega)).mp h), r_minutes ho hi, bT_inl, nI_add]
          rw [if_neg h4] at h9
          rw [← h9, show nI (nF x - 1 + sU (lnN x.1.2.1) i) + 4 = nI (nF x - 1 + (sU (lnN x.1.2.1) i + 4)) from nI_add _ 4]
      · rw [if_neg (show ¬ nI (x.1.2.1 i) ≤ 9 from nI_ge (a := 9) (by omega) (by omega))]
        rw [if_neg h3] at h9
        by_cases h4 : lf x ≠ 0 ∧ i ≤ x.1.2.2.2.2.1 - 1
        · rw [if_pos ((prI_le ho (by omega)).mpr h4)]
          rw [if_pos h4] at h9
          rw [← h9, show nI (nF x - 1 + sU (lnN x.1.2.1) i) + 5 = nI (nF x - 1 + (sU (lnN x.1.2.1) i + 5)) from nI_add _ 5, show nI (sU (afN x) i) + 0 = nI (sU (afN x) i + 0) from nI_add _ 0]
        · rw [if_neg fun h => h4 ((prI_le ho (by omega)).mp h), r_minutes ho hi, bT_inl, nI_add]
          rw [if_neg h4] at h9
          rw [← h9, show nI (nF x - 1 + sU (lnN x.1.2.1) i) + 5 = nI (nF x - 1 + (sU (lnN x.1.2.1) i + 5)) from nI_add _ 5]
theorem af_sum (ho : okB x) (h : lf x ≠ 0) : sU (afN x) (nF x) + sU x.1.2.1 x.1.2.2.2.2.1 = sU x.1.2.1 (nF x) := by
  have hp : x.1.2.2.2.2.1 ≤ nF x := ho.1.2.2.2.1
  have hp0 : x.1.2.2.2.2.1 ≠ 0 := fun h9 => h ((lf_run ho).mp h9)
  have key : ∀ n, (n ≤ x.1.2.2.2.2.1 → sU (afN x) n = 0) ∧ (x.1.2.2.2.2.1 ≤ n → sU (afN x) n + sU x.1.2.1 x.1.2.2.2.2.1 = sU x.1.2.1 n) := by
    intro n
    induction n with
    | zero => exact ⟨fun _ => rfl, fun h9 => absurd (Nat.le_zero.mp h9) hp0⟩
    | succ n ih =>
      have e1 : sU (afN x) (n + 1) = sU (afN x) n + (if lf x ≠ 0 ∧ n ≤ x.1.2.2.2.2.1 - 1 then 0 else x.1.2.1 n) := rfl
      have e2 : sU x.1.2.1 (n + 1) = sU x.1.2.1 n + x.1.2.1 n := rfl
      refine ⟨fun h9 => ?_, fun h9 => ?_⟩
      · rw [e1, if_pos ⟨h, by omega⟩, ih.1 (by omega)]
      · by_cases h8 : x.1.2.2.2.2.1 ≤ n
        · have h7 := ih.2 h8
          rw [e1, if_neg (by omega), e2]
          omega
        · have h7 : x.1.2.2.2.2.1 = n + 1 := by omega
          rw [e1, if_pos ⟨h, by omega⟩, ih.1 (by omega), h7]
          omega
  exact (key (nF x)).2 hp
theorem p_isCycle (ho : okB x) {t : MB} {r : R8} : f_L_isCycle (sS x t r) = some (1, sS x (itN (lf x) x) r) := by
  have h8 : nF x ≤ 8 := ho.1.1
  have hp : x.1.2.2.2.2.1 ≤ nF x := ho.1.2.2.2.1
  obtain ⟨hl, hl1, -⟩ := lf_facts ho
  have hs : sU (lnN x.1.2.1) (nF x) ≤ nF x * 5 := sU_le _ 5 _ fun j _ => by unfold lnN; split <;> omega
  have hs3 : sU x.1.2.1 (nF x) ≤ nF x * 30 := sU_le _ 30 _ fun j hj => (ho.1.2.2.1 j hj).2.2.1
  have tail : ∀ t, f_L_isCycle_34 9 (sS x t r) (prI x) (nI (nF x - 1)) (nI (lf x)) 0 0 = some (1, sS x t r) := by
    intro t
    have h := p_34 ho (t := t) (r := r) 9 0 (by omega) (by omega)
    rw [show sU (lnN x.1.2.1) 0 = 0 from rfl, show sU (afN x) 0 = 0 from rfl, Nat.add_zero, nI_0] at h
    rw [h]
    unfold f_L_isCycle_105
    rw [if_pos rfl, r_phases ho, Option.bind_some, if_pos rfl, r_writeCycle ho, Option.bind_some, r_running ho, Option.bind_some]
    have e133 : ∀ k1 k2 : Int32, k1 = nI (nF x - 1 + sU (lnN x.1.2.1) (nF x)) + k2 → f_L_isCycle_133 (sS x t r) (prI x) (nI (lf x)) (nI (sU (afN x) (nF x))) k1 (nI (nF x - 1 + sU (lnN x.1.2.1) (nF x))) k2 = f_L_isCycle_151 (sS x t r) (prI x) (nI (lf x)) (nI (sU (afN x) (nF x))) 1 := by
      intro k1 k2 hk
      unfold f_L_isCycle_133
      rw [if_pos hk, r_phaseCount, Option.bind_some, if_neg (show ¬ 8 < nI (nF x) from nI_nlt (a := 8) h8 (by omega))]
    have e151 : f_L_isCycle_151 (sS x t r) (prI x) (nI (lf x)) (nI (sU (afN x) (nF x))) 1 = some (1, sS x t r) := by
      unfold f_L_isCycle_151
      rw [if_neg (by decide), r_running ho, Option.bind_some]
      by_cases h0 : lf x = 0
      · rw [if_pos h0, if_pos rfl, h0, if_pos nI_0, p_190 ho]
      · have hp0 : x.1.2.2.2.2.1 ≠ 0 := fun h9 => h0 ((lf_run ho).mp h9)
        have ha := af_sum ho h0
        have hd := ho.1.2.2.2.2 (by omega)
        have el : lf x = sU x.1.2.1 (nF x) - sU x.1.2.1 (x.1.2.2.2.2.1 - 1) - x.1.2.2.2.2.2.1 := if_neg hp0
        have e3 : sU x.1.2.1 x.1.2.2.2.2.1 = sU x.1.2.1 (x.1.2.2.2.2.1 - 1) + x.1.2.1 (x.1.2.2.2.2.1 - 1) := by
          rw [show x.1.2.2.2.2.1 = x.1.2.2.2.2.1 - 1 + 1 by omega]
          rfl
        rw [if_neg h0, if_neg (by decide), if_neg (nI_ge (by omega) (by omega)), show prI x = nI (x.1.2.2.2.2.1 - 1) from if_neg h0, r_minutes ho (show x.1.2.2.2.2.1 - 1 < nF x by omega), bT_inl, nI_add, if_neg (nI_nlt (by omega) (by omega)), p_190 ho]
    by_cases h0 : lf x = 0
    · rw [if_pos h0, if_pos rfl, e133 (nI (nF x - 1 + sU (lnN x.1.2.1) (nF x) + (if x.1.2.2.2.2.1 = 0 then 0 else 1))) 0 (by rw [if_pos ((lf_run ho).mpr h0), Nat.add_zero, Int32.add_zero]), e151]
    · rw [if_neg h0, if_neg (by decide), e133 (nI (nF x - 1 + sU (lnN x.1.2.1) (nF x) + (if x.1.2.2.2.2.1 = 0 then 0 else 1))) 1 (by rw [if_neg fun h9 => h0 ((lf_run ho).mp h9)]; exact (nI_add _ 1).symm), e151]
  unfold f_L_isCycle
  rw [r_present ho, bS_some, r_phaseCount, Option.bind_some]
  by_cases h0 : nF x = 0
  · rw [if_pos (show nI (nF x) = 0 by rw [h0]; rfl), r_left ho, bS_some]
    have h9 := tail (itN (lf x) x)
    rw [h0] at h9
    exact h9
  · rw [if_neg (nI_ne0 (by omega) (by omega)), Option.bind_some, r_left ho, bS_some, show nI (nF x) - 1 = nI (nF x - 1) from pk_sub (b := 1) (by omega)]
    exact tail (itN (lf x) x)
end CY
