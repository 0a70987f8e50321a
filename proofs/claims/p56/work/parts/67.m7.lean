/-! means and lines -/
def sI (g : Nat → Int32) : Nat → Int32
  | 0 => 0
  | n + 1 => sI g n + g n
def dk (T : NN) : NN := fun i => if T i ≤ 30 then 1 else 0
theorem lt142 {a : Nat} (h : a ≤ 142) : (142 < a) = False := eq_false (by omega)
theorem dg9 {v : Nat} (h : v ≤ 99) : sb_dg v = if v ≤ 9 then 1 else 2 := by
  unfold sb_dg
  by_cases h1 : v ≤ 9
  · rw [if_pos (by omega), if_pos h1]
  · rw [if_neg (by omega), if_pos (by omega), if_neg h1]
theorem dg3 {v : Nat} (h : v < 1000) : 1 ≤ sb_dg v ∧ sb_dg v ≤ 3 := by
  unfold sb_dg
  split
  · omega
  · split
    · omega
    · omega
section RM
variable {x t : MB} {r : R8}
theorem r_mean (ho : okB x) : f_L_meanFirmness (sS x t r) = some (if nQ x = 0 then 13890095209322119168 else FP.ddiv (FP.i2d (sI (fmI x.2.2.1) (nQ x))) (FP.i2d (nI (nQ x))), sS x t r) := by
  have h12 : nQ x ≤ 12 := ho.2.2.1.1
  unfold f_L_meanFirmness g_X7_meanFirmness f_X7_meanFirmness
  by_cases h0 : nQ x = 0
  · rw [if_pos (show (sS x t r).1.2.2.1.2.2.2.2 = 0 by show nI (nQ x) = 0; rw [h0]; rfl), if_pos h0]
    rfl
  · have loop : ∀ (fu i : Nat), nQ x < fu + i → i ≤ nQ x → f_X4_firmnessOfAll_4 (eF x.2.2.1.1) (eF x.2.2.1.2.1) (eF x.2.2.1.2.2.1) (eF x.2.2.1.2.2.2.1) (nI x.2.2.1.2.2.2.2) fu (sI (fmI x.2.2.1) i) (nI i) = some (sI (fmI x.2.2.1) (nQ x)) := by
      intro fu
      induction fu with
      | zero => intro i h1 h2; omega
      | succ fu ih =>
        intro i h1 h2
        rw [f_X4_firmnessOfAll_4]
        by_cases h : nQ x ≤ i
        · rw [if_pos (show nI x.2.2.1.2.2.2.2 ≤ nI i from nI_le h (by omega)), show i = nQ x by omega]
        · rw [if_neg (show ¬ nI x.2.2.1.2.2.2.2 ≤ nI i from nI_ge (b := nQ x) (by omega) (by omega)), h_fm (t := x.2.2.1) (show i < nQ x by omega) h12]
          simp only [Option.bind_some]
          rw [nI_1]
          exact ih (i + 1) (by omega) (by omega)
    have h := loop 300 0 (by omega) (by omega)
    rw [if_neg (show ¬ (sS x t r).1.2.2.1.2.2.2.2 = 0 from nI_ne0 (n := nQ x) (by omega) (by omega)), if_neg h0, show g_X4_firmnessOfAll (sS x t r).1.2.2.1 = some (sI (fmI x.2.2.1) (nQ x)) from h]
    simp only [Option.bind_some]
    rw [if_neg (show ¬ ¬ (FP.ddiv (FP.i2d (sI (fmI x.2.2.1) (nQ x))) (FP.i2d (sS x t r).1.2.2.1.2.2.2.2) &&& 0x7fffffffffffffff ≤ 0x7ff0000000000000) from Decidable.not_not.mpr (mean64 (sI (fmI x.2.2.1) (nQ x)) (c := nQ x) (by omega) h12).1)]
    rfl
theorem r_share (ho : okB x) : f_L_coolShare (sS x t r) = some (if nQ x = 0 then 3212836864 else FP.fdiv (FP.i2f (nI (sU (dk x.2.2.1.2.1) (nQ x)))) (FP.i2f (nI (nQ x))), sS x t r) := by
  have h12 : nQ x ≤ 12 := ho.2.2.1.1
  unfold f_L_coolShare g_X7_coolShare f_X7_coolShare
  by_cases h0 : nQ x = 0
  · rw [if_pos (show (sS x t r).1.2.2.1.2.2.2.2 = 0 by show nI (nQ x) = 0; rw [h0]; rfl), if_pos h0]
    rfl
  · have loop : ∀ (fu i : Nat), nQ x < fu + i → i ≤ nQ x → f_X4_coolOnes_4 (eF x.2.2.1.1) (eF x.2.2.1.2.1) (eF x.2.2.1.2.2.1) (eF x.2.2.1.2.2.2.1) (nI x.2.2.1.2.2.2.2) fu (nI (sU (dk x.2.2.1.2.1) i)) (nI i) = some (nI (sU (dk x.2.2.1.2.1) (nQ x))) := by
      intro fu
      induction fu with
      | zero => intro i h1 h2; omega
      | succ fu ih =>
        intro i h1 h2
        rw [f_X4_coolOnes_4]
        by_cases h : nQ x ≤ i
        · rw [if_pos (show nI x.2.2.1.2.2.2.2 ≤ nI i from nI_le h (by omega)), show i = nQ x by omega]
        · have h20 := (ho.2.2.1.2 i (show i < nQ x by omega)).2.2.1
          rw [if_neg (show ¬ nI x.2.2.1.2.2.2.2 ≤ nI i from nI_ge (b := nQ x) (by omega) (by omega)), h_cool (t := x.2.2.1) (show i < nQ x by omega) h12 h20]
          simp only [Option.bind_some]
          have h9 := ih (i + 1) (by omega) (by omega)
          have e : sU (dk x.2.2.1.2.1) (i + 1) = sU (dk x.2.2.1.2.1) i + (if x.2.2.1.2.1 i ≤ 30 then 1 else 0) := rfl
          rw [e] at h9
          by_cases hT : x.2.2.1.2.1 i ≤ 30
          · rw [if_pos hT, if_neg (by decide), nI_1, nI_1]
            rw [if_pos hT] at h9
            exact h9
          · rw [if_neg hT, if_pos rfl, nI_1]
            rw [if_neg hT] at h9
            exact h9
    have h := loop 300 0 (by omega) (by omega)
    rw [if_neg (show ¬ (sS x t r).1.2.2.1.2.2.2.2 = 0 from nI_ne0 (n := nQ x) (by omega) (by omega)), if_neg h0, show g_X4_coolOnes (sS x t r).1.2.2.1 = some (nI (sU (dk x.2.2.1.2.1) (nQ x))) from h]
    simp only [Option.bind_some]
    rw [if_neg (show ¬ ¬ (FP.fdiv (FP.i2f (nI (sU (dk x.2.2.1.2.1) (nQ x)))) (FP.i2f (sS x t r).1.2.2.1.2.2.2.2) &&& 0x7fffffff ≤ 0x7f800000) from Decidable.not_not.mpr (mean32 (nI (sU (dk x.2.2.1.2.1) (nQ x))) (c := nQ x) (by omega) h12).1)]
    rfl
theorem r_writePat (ho : okB x) {i : Nat} (hi : i < nQ x) : ∃ k, 5 + x.2.2.1.2.2.2.1 i ≤ k ∧ k < 1000 ∧ g_X7_writePat (sS x t r) (nI i) = some (.inl (nI k), sS x t r) := by
  have h12 : nQ x ≤ 12 := ho.2.2.1.1
  obtain ⟨a1, a2, a3, a4, a5⟩ := ho.2.2.1.2 i hi
  have d1 := dg3 (v := x.2.2.1.1 i) (by omega)
  have d2 := dg3 (v := x.2.2.1.2.1 i) (by omega)
  have d3 := dg3 (v := x.2.2.1.2.2.1 i) (by omega)
  refine ⟨0 + sb_dg (x.2.2.1.1 i) + 1 + sb_dg (x.2.2.1.2.1 i) + 1 + sb_dg (x.2.2.1.2.2.1 i) + x.2.2.1.2.2.2.1 i, by omega, by omega, ?_⟩
  have eM : (eB x).2.2.1.1 i = nI (x.2.2.1.1 i) := rfl
  have eT9 : (eB x).2.2.1.2.1 i = nI (x.2.2.1.2.1 i) := rfl
  have eS : (eB x).2.2.1.2.2.1 i = nI (x.2.2.1.2.2.1 i) := rfl
  have eC9 : (eB x).2.2.1.2.2.2.1 i = nI (x.2.2.1.2.2.2.1 i) := rfl
  have c1 : (nI i < 0 ∨ 12 ≤ i) = False := eq_false (gk (by omega) (by omega))
  have loop : ∀ (fu j n : Nat), x.2.2.1.2.2.2.1 i < fu + j → j ≤ x.2.2.1.2.2.2.1 i → n + (x.2.2.1.2.2.2.1 i - j) ≤ 100 → f_X7_writePat_85 (eB x) (eB t) r.1 r.2.1 r.2.2.1 r.2.2.2.1 r.2.2.2.2.1 r.2.2.2.2.2.1 r.2.2.2.2.2.2.1 r.2.2.2.2.2.2.2 (nI i) fu (nI j) n = some (.inl (nI (n + (x.2.2.1.2.2.2.1 i - j))), sS x t r) := by
    intro fu
    induction fu with
    | zero => intro j n h1 h2; omega
    | succ fu ih =>
      intro j n h1 h2 h3
      rw [f_X7_writePat_85, nI_clamp (by omega), eC9]
      simp only [c1, if_false]
      by_cases h : x.2.2.1.2.2.2.1 i ≤ j
      · rw [if_pos (nI_le h (by omega)), show x.2.2.1.2.2.2.1 i - j = 0 by omega]
        rfl
      · rw [if_neg (nI_ge (by omega) (by omega)), if_neg (by omega), nI_1, ih (j + 1) (n + 1) (by omega) (by omega) (by omega), show n + 1 + (x.2.2.1.2.2.2.1 i - (j + 1)) = n + (x.2.2.1.2.2.2.1 i - j) by omega]
  unfold g_X7_writePat f_X7_writePat
  rw [r_req ho hi]
  have key : ∀ {α : Type} (F : SX7 → Option α) , F (sS x t r) = F (sS x t r) := fun _ => rfl
  show (if nI i < 0 ∨ 12 ≤ (nI i).toNatClampNeg then none else
    if ¬ (((eB x).2.2.1.1 (nI i).toNatClampNeg).toNatClampNeg < 1000 ∧ ((eB x).2.2.1.1 (nI i).toNatClampNeg) = nI ((eB x).2.2.1.1 (nI i).toNatClampNeg).toNatClampNeg) then none else
    if 142 < 0 + sb_dg ((eB x).2.2.1.1 (nI i).toNatClampNeg).toNatClampNeg then none else
    if 142 < (0 + sb_dg ((eB x).2.2.1.1 (nI i).toNatClampNeg).toNatClampNeg) + 1 then none else
    if nI i < 0 ∨ 12 ≤ (nI i).toNatClampNeg then none else
    if ¬ (((eB x).2.2.1.2.1 (nI i).toNatClampNeg).toNatClampNeg < 1000 ∧ ((eB x).2.2.1.2.1 (nI i).toNatClampNeg) = nI ((eB x).2.2.1.2.1 (nI i).toNatClampNeg).toNatClampNeg) then none else
    if 142 < ((0 + sb_dg ((eB x).2.2.1.1 (nI i).toNatClampNeg).toNatClampNeg) + 1) + sb_dg ((eB x).2.2.1.2.1 (nI i).toNatClampNeg).toNatClampNeg then none else
    if 142 < (((0 + sb_dg ((eB x).2.2.1.1 (nI i).toNatClampNeg).toNatClampNeg) + 1) + sb_dg ((eB x).2.2.1.2.1 (nI i).toNatClampNeg).toNatClampNeg) + 1 then none else
    if nI i < 0 ∨ 12 ≤ (nI i).toNatClampNeg then none else
    if ¬ (((eB x).2.2.1.2.2.1 (nI i).toNatClampNeg).toNatClampNeg < 1000 ∧ ((eB x).2.2.1.2.2.1 (nI i).toNatClampNeg) = nI ((eB x).2.2.1.2.2.1 (nI i).toNatClampNeg).toNatClampNeg) then none else
    if 142 < ((((0 + sb_dg ((eB x).2.2.1.1 (nI i).toNatClampNeg).toNatClampNeg) + 1) + sb_dg ((eB x).2.2.1.2.1 (nI i).toNatClampNeg).toNatClampNeg) + 1) + sb_dg ((eB x).2.2.1.2.2.1 (nI i).toNatClampNeg).toNatClampNeg then none else
    f_X7_writePat_85 (eB x) (eB t) r.1 r.2.1 r.2.2.1 r.2.2.2.1 r.2.2.2.2.1 r.2.2.2.2.2.1 r.2.2.2.2.2.2.1 r.2.2.2.2.2.2.2 (nI i) 20 0 (((((0 + sb_dg ((eB x).2.2.1.1 (nI i).toNatClampNeg).toNatClampNeg) + 1) + sb_dg ((eB x).2.2.1.2.1 (nI i).toNatClampNeg).toNatClampNeg) + 1) + sb_dg ((eB x).2.2.1.2.2.1 (nI i).toNatClampNeg).toNatClampNeg)) = _
  rw [nI_clamp (show i < 2 ^ 31 by omega), eM, eT9, eS, nI_clamp (show x.2.2.1.1 i < 2 ^ 31 by omega), nI_clamp (show x.2.2.1.2.1 i < 2 ^ 31 by omega), nI_clamp (show x.2.2.1.2.2.1 i < 2 ^ 31 by omega)]
  simp only [c1, if_false]
  rw [if_neg (Decidable.not_not.mpr ⟨by omega, trivial⟩), if_neg (by omega), if_neg (by omega), if_neg (Decidable.not_not.mpr ⟨by omega, trivial⟩), if_neg (by omega), if_neg (by omega), if_neg (Decidable.not_not.mpr ⟨by omega, trivial⟩), if_neg (by omega)]
  have h := loop 20 0 (0 + sb_dg (x.2.2.1.1 i) + 1 + sb_dg (x.2.2.1.2.1 i) + 1 + sb_dg (x.2.2.1.2.2.1 i)) (by omega) (by omega) (by omega)
  rw [nI_0, Nat.sub_zero] at h
  exact h
def lnN (I : NN) : NN := fun i => if I i ≤ 9 then 4 else 5
theorem r_writeCycle (ho : okB x) : g_X7_writeCycle (sS x t r) = some (nI (nF x - 1 + sU (lnN x.1.2.1) (nF x) + (if x.1.2.2.2.2.1 = 0 then 0 else 1))) := by
  have h8 : nF x ≤ 8 := ho.1.1
  have hp : x.1.2.2.2.2.1 ≤ nF x := ho.1.2.2.2.1
  have loop : ∀ (fu i n : Nat), nF x < fu + i → i ≤ nF x → n = i - 1 + sU (lnN x.1.2.1) i + (if x.1.2.2.2.2.1 ≠ 0 ∧ x.1.2.2.2.2.1 ≤ i then 1 else 0) → f_X7_writeCycle_18 (eB x) (eB t) r.1 r.2.1 r.2.2.1 r.2.2.2.1 r.2.2.2.2.1 r.2.2.2.2.2.1 r.2.2.2.2.2.2.1 r.2.2.2.2.2.2.2 fu (nI i) n = some (nI (nF x - 1 + sU (lnN x.1.2.1) (nF x) + (if x.1.2.2.2.2.1 = 0 then 0 else 1))) := by
    intro fu
    induction fu with
    | zero => intro i n h1 h2; omega
    | succ fu ih =>
      intro i n h1 h2 hn
      rw [f_X7_writeCycle_18]
      by_cases h : nF x ≤ i
      · have e : i = nF x := by omega
        subst e
        rw [if_pos (show (eB x).1.2.2.2.1 ≤ nI (nF x) from nI_le (Nat.le_refl (nF x)) (by omega)), hn]
        by_cases h0 : x.1.2.2.2.2.1 = 0
        · rw [if_neg (by omega), if_pos h0]
        · rw [if_pos ⟨h0, hp⟩, if_neg h0]
      · obtain ⟨hk, a1, a2, a3, a4⟩ := ho.1.2.2.1 i (show i < nF x by omega)
        have hs : sU (lnN x.1.2.1) i ≤ i * 5 := sU_le _ 5 i fun j _ => by unfold lnN; split <;> omega
        have es : sU (lnN x.1.2.1) (i + 1) = sU (lnN x.1.2.1) i + (if x.1.2.1 i ≤ 9 then 4 else 5) := rfl
        have d1 := dg9 (v := x.1.2.1 i) (by omega)
        have d2 : sb_dg (x.1.2.2.1 i) = 1 := by rw [dg9 (by omega), if_pos (by omega)]
        have hnb : n ≤ 50 := by rw [hn]; split <;> omega
        have d3 : sb_dg (x.1.2.1 i) ≤ 2 := by rw [d1]; split <;> omega
        rw [if_neg (show ¬ (eB x).1.2.2.2.1 ≤ nI i from nI_ge (b := nF x) (by omega) (by omega)), nI_clamp (by omega)]
        have eK : (eB x).1.1 i = nI (x.1.1 i) := rfl
        have eI : (eB x).1.2.1 i = nI (x.1.2.1 i) := rfl
        have eV : (eB x).1.2.2.1 i = nI (x.1.2.2.1 i) := rfl
        have eP : (eB x).1.2.2.2.2.1 = pI x.1.2.2.2.2.1 := rfl
        rw [eK, eI, eV, eP, nI_clamp (show x.1.2.1 i < 2 ^ 31 by omega), nI_clamp (show x.1.2.2.1 i < 2 ^ 31 by omega), d2]
        have c1 : (nI i < 0 ∨ 8 ≤ i) = False := eq_false (gk (by omega) (by omega))
        have c2 : (255 < nI (x.1.1 i)) = False := eq_false (nI_nlt (b := x.1.1 i) (a := 255) (by rcases hk with h | h | h | h <;> omega) (by omega))
        have c3 : (x.1.2.1 i < 1000) = True := eq_true (by omega)
        have c4 : (x.1.2.2.1 i < 1000) = True := eq_true (by omega)
        have cp : (nI i = pI x.1.2.2.2.2.1) ↔ x.1.2.2.2.2.1 = i + 1 := by
          by_cases h0 : x.1.2.2.2.2.1 = 0
          · rw [h0, pI_0]
            constructor
            · intro h9
              exact absurd (h9 ▸ nI_pos (n := i) (by omega)) (by decide)
            · intro h9; omega
          · rw [pI_of h0, nI_eq (by omega) (by omega)]
            omega
        have hD : (if x.1.2.1 i ≤ 9 then 4 else 5) = sb_dg (x.1.2.1 i) + 3 := by
          rw [d1]
          by_cases h9 : x.1.2.1 i ≤ 9
          · rw [if_pos h9, if_pos h9]
          · rw [if_neg h9, if_neg h9]
        by_cases hz : i = 0
        · rw [if_pos (show nI i ≤ 0 by rw [hz]; decide)]
          simp (disch := omega) only [c1, c2, c3, c4, lt142, if_false, and_true, true_and, not_true]
          by_cases hq : x.1.2.2.2.2.1 = i + 1
          · have f0 : (if x.1.2.2.2.2.1 ≠ 0 ∧ x.1.2.2.2.2.1 ≤ i then 1 else 0) = 0 := if_neg (by omega)
            have f1 : (if x.1.2.2.2.2.1 ≠ 0 ∧ x.1.2.2.2.2.1 ≤ i + 1 then 1 else 0) = 1 := if_pos (by omega)
            rw [if_pos (cp.mpr hq), nI_1]
            refine ih (i + 1) _ (by omega) (by omega) ?_
            rw [es, hD, hn, f0, f1]
            omega
          · have f2 : (if x.1.2.2.2.2.1 ≠ 0 ∧ x.1.2.2.2.2.1 ≤ i + 1 then 1 else 0) = (if x.1.2.2.2.2.1 ≠ 0 ∧ x.1.2.2.2.2.1 ≤ i then 1 else 0) := by
              by_cases h9 : x.1.2.2.2.2.1 ≠ 0 ∧ x.1.2.2.2.2.1 ≤ i
              · rw [if_pos h9, if_pos (by omega)]
              · rw [if_neg h9, if_neg (by omega)]
            rw [if_neg fun h => hq (cp.mp h), nI_1]
            refine ih (i + 1) _ (by omega) (by omega) ?_
            rw [es, hD, hn, f2]
            omega
        · rw [if_neg (show ¬ nI i ≤ 0 from nI_nle (by omega) (by omega))]
          simp (disch := omega) only [c1, c2, c3, c4, lt142, if_false, and_true, true_and, not_true]
          by_cases hq : x.1.2.2.2.2.1 = i + 1
          · have f0 : (if x.1.2.2.2.2.1 ≠ 0 ∧ x.1.2.2.2.2.1 ≤ i then 1 else 0) = 0 := if_neg (by omega)
            have f1 : (if x.1.2.2.2.2.1 ≠ 0 ∧ x.1.2.2.2.2.1 ≤ i + 1 then 1 else 0) = 1 := if_pos (by omega)
            rw [if_pos (cp.mpr hq), nI_1]
            refine ih (i + 1) _ (by omega) (by omega) ?_
            rw [es, hD, hn, f0, f1]
            omega
          · have f2 : (if x.1.2.2.2.2.1 ≠ 0 ∧ x.1.2.2.2.2.1 ≤ i + 1 then 1 else 0) = (if x.1.2.2.2.2.1 ≠ 0 ∧ x.1.2.2.2.2.1 ≤ i then 1 else 0) := by
              by_cases h9 : x.1.2.2.2.2.1 ≠ 0 ∧ x.1.2.2.2.2.1 ≤ i
              · rw [if_pos h9, if_pos (by omega)]
              · rw [if_neg h9, if_neg (by omega)]
            rw [if_neg fun h => hq (cp.mp h), nI_1]
            refine ih (i + 1) _ (by omega) (by omega) ?_
            rw [es, hD, hn, f2]
            omega
  have h := loop 20 0 0 (by omega) (by omega) (by rw [if_neg (by omega)]; rfl)
  exact h
end RM
