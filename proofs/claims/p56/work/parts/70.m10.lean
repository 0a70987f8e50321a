/-! arePats holds -/
section AP
variable {x : MB}
theorem fm_le (ho : okB x) {q : Nat} (hq : q < nQ x) : ¬ (100 - 15 * nI (x.2.2.1.2.2.2.1 q)) < fmI x.2.2.1 q := by
  obtain ⟨-, -, -, h1, h2⟩ := ho.2.2.1.2 q hq
  obtain ⟨e1, -, -⟩ := fmI_Z ho.2.2.1 hq
  rw [Int32.lt_iff_toInt_lt, e1, show (15 : Int32) * nI (x.2.2.1.2.2.2.1 q) = nI (15 * x.2.2.1.2.2.2.1 q) from pk_mul 15 _, show (100 : Int32) = nI 100 from rfl, pk_sub_toInt (by omega) (by omega)]
  unfold fZ
  omega
theorem p_65 (ho : okB x) {r : R8} : ∀ (fu k : Nat) (t : MB) (x2 x4 : Int32) (a : Nat), okB t → k < fu → k ≤ nQ x → x2 + nI (sU x.2.2.1.1 k) = x.2.2.2.2.2.1 → x4 + sI (fmI x.2.2.1) k = sI (fmI x.2.2.1) (nQ x) → a + sU (dk x.2.2.1.2.1) k = sU (dk x.2.2.1.2.1) (nQ x) → ∃ t1, okB t1 ∧ f_L_arePats_65 fu (sS x t r) (nI (nQ x)) x2 (nI a) x4 (ncR x.2.2.1.2.1 (nQ x) (nQ x - k)) 1 (pI k) = f_L_arePats_260 13 (sS x t1 r) (nI (nQ x)) x.2.2.2.2.2.1 (nI (sU (dk x.2.2.1.2.1) (nQ x))) (sI (fmI x.2.2.1) (nQ x)) 1 1 := by
  have h12 : nQ x ≤ 12 := ho.2.2.1.1
  intro fu
  induction fu with
  | zero => intro k t x2 x4 a _ h1; omega
  | succ fu ih =>
    intro k t x2 x4 a ht h1 h2 hm hs ha
    rw [f_L_arePats_65, if_neg (by decide)]
    cases k with
    | zero =>
      refine ⟨t, ht, ?_⟩
      rw [if_pos (show pI 0 < 0 by decide)]
      have e1 : x2 = x.2.2.2.2.2.1 := by rw [← hm, show sU x.2.2.1.1 0 = 0 from rfl, nI_0, Int32.add_zero]
      have e2 : x4 = sI (fmI x.2.2.1) (nQ x) := by rw [← hs, show sI (fmI x.2.2.1) 0 = 0 from rfl, Int32.add_zero]
      have e3 : a = sU (dk x.2.2.1.2.1) (nQ x) := by rw [← ha]; rfl
      rw [e1, e2, e3]
    | succ q =>
      have hq : q < nQ x := by omega
      obtain ⟨b1, b2, b3, b4, b5⟩ := ho.2.2.1.2 q hq
      obtain ⟨t1, g1, g2⟩ := r_until ho (t := t) (r := r) hq
      obtain ⟨k9, k1, k2, k3⟩ := r_writePat ho (t := t1) (r := r) hq
      have eN : nQ x - q = nQ x - (q + 1) + 1 := by omega
      have eN2 : nQ x - (nQ x - (q + 1) + 1) = q := by omega
      have em : x2 + nI (x.2.2.1.1 q) + nI (sU x.2.2.1.1 q) = x.2.2.2.2.2.1 := by
        rw [← hm, show sU x.2.2.1.1 (q + 1) = sU x.2.2.1.1 q + x.2.2.1.1 q from rfl, Int32.add_assoc, nI_add, Nat.add_comm]
      have es : x4 + fmI x.2.2.1 q + sI (fmI x.2.2.1) q = sI (fmI x.2.2.1) (nQ x) := by
        rw [← hs, show sI (fmI x.2.2.1) (q + 1) = sI (fmI x.2.2.1) q + fmI x.2.2.1 q from rfl, Int32.add_assoc, Int32.add_comm (fmI x.2.2.1 q)]
      have ea : sU (dk x.2.2.1.2.1) (q + 1) = sU (dk x.2.2.1.2.1) q + (if x.2.2.1.2.1 q ≤ 30 then 1 else 0) := rfl
      have ep : pI (q + 1) + (-1) = pI q := by
        rw [pI_s]
        cases q with
        | zero => decide
        | succ q => rw [pI_s]; exact pk_m1 q
      rw [pI_s, if_neg (nI_pos (by omega)), r_patTemp ho hq, bT_inl]
      rw [pI_s] at ep
      by_cases hT : x.2.2.1.2.1 q ≤ 30
      · rw [if_neg (show ¬ 30 < nI (x.2.2.1.2.1 q) from nI_nlt (a := 30) hT (by omega)), r_firm ho hq, bT_inl, r_patMass ho hq, bT_inl, r_isCool ho hq, bT_inl, if_pos hT, if_pos rfl, g2, bT_inl, show uc (x.2.2.1.2.1 q) = 0 by unfold uc; omega, if_pos nI_0, r_untilDiv ho hq, bT_inl, show uc (x.2.2.1.2.1 q) = 0 by unfold uc; omega, if_pos nI_0, r_nextCool ho hq, bS_some, eN, ncR, eN2, if_pos hT, if_pos rfl, r_firm ho hq, bT_inl, r_cracks ho hq, bT_inl, if_neg (fm_le ho hq), k3, bT_inl, r_cracks ho hq, bT_inl, if_neg (show ¬ nI k9 < 5 + nI (x.2.2.1.2.2.2.1 q) by
          rw [show (5 : Int32) + nI (x.2.2.1.2.2.2.1 q) = nI (5 + x.2.2.1.2.2.2.1 q) from nI_add 5 _]
          exact nI_nlt k1 (by omega)), ep, nI_1]
        rw [if_pos hT] at ea
        obtain ⟨t2, f1, f2⟩ := ih q t1 (x2 + nI (x.2.2.1.1 q)) (x4 + fmI x.2.2.1 q) (a + 1) g1 (by omega) (by omega) em es (by omega)
        rw [eN, ncR, eN2, if_pos hT] at f2
        exact ⟨t2, f1, f2⟩
      · have e5 : (nI (x.2.2.1.2.1 q) - 26) / 5 = nI (uc (x.2.2.1.2.1 q)) := by
          rw [show nI (x.2.2.1.2.1 q) - 26 = nI (x.2.2.1.2.1 q - 26) from pk_sub (b := 26) (by omega)]
          exact pk_div (d := 5) (by omega) (by omega) (by omega)
        rw [if_pos (show 30 < nI (x.2.2.1.2.1 q) from nI_lt (a := 30) (by omega) (by omega)), r_patTemp ho hq, bT_inl, r_firm ho hq, bT_inl, r_patMass ho hq, bT_inl, r_isCool ho hq, bT_inl, if_neg hT, if_pos rfl, g2, bT_inl, e5, if_pos rfl, r_untilDiv ho hq, bT_inl, if_pos rfl, r_nextCool ho hq, bS_some, eN, ncR, eN2, if_neg hT, if_pos rfl, r_firm ho hq, bT_inl, r_cracks ho hq, bT_inl, if_neg (fm_le ho hq), k3, bT_inl, r_cracks ho hq, bT_inl, if_neg (show ¬ nI k9 < 5 + nI (x.2.2.1.2.2.2.1 q) by
          rw [show (5 : Int32) + nI (x.2.2.1.2.2.2.1 q) = nI (5 + x.2.2.1.2.2.2.1 q) from nI_add 5 _]
          exact nI_nlt k1 (by omega)), ep, Int32.add_zero]
        rw [if_neg hT] at ea
        obtain ⟨t2, f1, f2⟩ := ih q t1 (x2 + nI (x.2.2.1.1 q)) (x4 + fmI x.2.2.1 q) a g1 (by omega) (by omega) em es (by omega)
        rw [eN, ncR, eN2, if_neg hT] at f2
        exact ⟨t2, f1, f2⟩
theorem p_260 (ho : okB x) {t : MB} {r : R8} (x2 x3 x4 : Int32) : ∀ (fu i : Nat), nQ x + 1 < fu + i → 1 ≤ i → i ≤ nQ x + 1 → f_L_arePats_260 fu (sS x t r) (nI (nQ x)) x2 x3 x4 1 (nI i) = f_L_arePats_359 (sS x t r) (nI (nQ x)) x2 x3 x4 1 := by
  have h12 : nQ x ≤ 12 := ho.2.2.1.1
  intro fu
  induction fu with
  | zero =>
    intro i h1 h2 h3
    omega
  | succ fu ih =>
    intro i h1 h2 h3
    rw [f_L_arePats_260, if_neg (by decide)]
    by_cases hc : nQ x ≤ i
    · rw [if_pos (nI_le hc (by omega))]
    · have hpg := pigeon (nQ x) (rkN (fZ x.2.2.1) x.2.2.1.1 (nQ x)) (fun i hi => rk_c hi) (fun i j hi hj h => rk_inj hi hj h)
      obtain ⟨p, hp, ep⟩ := hpg (i - 1) (by omega)
      obtain ⟨q, hq, eq⟩ := hpg i (by omega)
      have hb : bfP (fZ x.2.2.1) x.2.2.1.1 p q := by
        have hne : p ≠ q := fun h => by rw [h] at ep; omega
        rcases bf_tot (F := fZ x.2.2.1) (M := x.2.2.1.1) hne with h | h
        · exact h
        · have := rk_lt hq h
          omega
      obtain ⟨z1, z2, z3⟩ := fmI_Z ho.2.2.1 hp
      obtain ⟨y1, y2, y3⟩ := fmI_Z ho.2.2.1 hq
      obtain ⟨m1, m2, -⟩ := ho.2.2.1.2 p hp
      obtain ⟨n1, n2, -⟩ := ho.2.2.1.2 q hq
      have d1 : (fmI x.2.2.1 p - fmI x.2.2.1 q).toInt = fZ x.2.2.1 p - fZ x.2.2.1 q := by
        rw [i_sub (by omega) (by omega), z1, y1]
      have d2 : (nI (x.2.2.1.1 p) - nI (x.2.2.1.1 q)).toInt = (x.2.2.1.1 p : Int) - x.2.2.1.1 q := pk_sub_toInt (by omega) (by omega)
      have l0 : ∀ {z : Int32}, 0 < z ↔ 0 < z.toInt := Int32.lt_iff_toInt_lt
      have e0 : ∀ {z : Int32}, z = 0 ↔ z.toInt = 0 := fun {z} => (Int32.toInt_inj (x := z) (y := 0)).symm
      rw [if_neg (nI_ge (by omega) (by omega)), show nI i - 1 = nI (i - 1) from pk_sub (b := 1) (by omega), r_rank_hit ho hp ep, bS_some, r_rank_hit ho hq eq, bS_some, r_firm ho hp, bT_inl, r_firm ho hq, bT_inl, r_patMass ho hp, bT_inl, r_patMass ho hq, bT_inl, nI_1]
      have h9 := ih (i + 1) (by omega) (by omega) (by omega)
      unfold bfP at hb
      by_cases g1 : fZ x.2.2.1 q < fZ x.2.2.1 p
      · rw [if_pos (l0.mpr (by rw [d1]; omega)), h9]
      · rw [if_neg (fun h => by have := l0.mp h; rw [d1] at this; omega), if_pos (e0.mpr (by rw [d1]; omega))]
        by_cases g2 : x.2.2.1.1 q < x.2.2.1.1 p
        · rw [if_pos (l0.mpr (by rw [d2]; omega)), h9]
        · rw [if_neg (fun h => by have := l0.mp h; rw [d2] at this; omega), if_pos (e0.mpr (by rw [d2]; omega)), if_neg (nI_ge (by omega) (by omega)), h9]
theorem p_359 (ho : okB x) {t : MB} {r : R8} : f_L_arePats_359 (sS x t r) (nI (nQ x)) x.2.2.2.2.2.1 (nI (sU (dk x.2.2.1.2.1) (nQ x))) (sI (fmI x.2.2.1) (nQ x)) 1 = some (1, sS x t r) := by
  have h12 : nQ x ≤ 12 := ho.2.2.1.1
  unfold f_L_arePats_359
  rw [if_neg (by decide), r_loaded, Option.bind_some, if_pos rfl, r_mean ho, bS_some]
  by_cases h0 : nQ x = 0
  · rw [if_pos h0, if_pos (show nI (nQ x) = 0 by rw [h0]; rfl)]
    unfold f_L_arePats_392
    rw [if_pos (by decide +kernel), r_share ho, bS_some, if_pos h0, if_pos (show nI (nQ x) = 0 by rw [h0]; rfl), if_pos (by decide +kernel)]
  · rw [if_neg h0, if_neg (nI_ne0 (by omega) (by omega)), if_neg (Decidable.not_not.mpr (mean64 (sI (fmI x.2.2.1) (nQ x)) (by omega) h12).1)]
    unfold f_L_arePats_392
    rw [if_pos (cmp64 (mean64 (sI (fmI x.2.2.1) (nQ x)) (by omega) h12)), r_share ho, bS_some, if_neg h0, if_neg (nI_ne0 (by omega) (by omega)), if_neg (Decidable.not_not.mpr (mean32 (nI (sU (dk x.2.2.1.2.1) (nQ x))) (by omega) h12).1), if_pos (cmp32 (mean32 (nI (sU (dk x.2.2.1.2.1) (nQ x))) (by omega) h12))]
theorem p_arePats (ho : okB x) {t : MB} {r : R8} (ht : okB t) : ∃ t1, okB t1 ∧ f_L_arePats (sS x t r) = some (1, sS x t1 r) := by
  have h12 : nQ x ≤ 12 := ho.2.2.1.1
  have hm : nI x.2.1.1 + x.2.2.2.2.2.2 + nI (sU x.2.2.1.1 (nQ x)) = x.2.2.2.2.2.1 := by
    rw [← ho.2.2.2, Int32.add_assoc, Int32.add_comm x.2.2.2.2.2.2, ← Int32.add_assoc, nI_add]
  obtain ⟨t1, g1, g2⟩ := p_65 ho (r := r) 13 (nQ x) t (nI x.2.1.1 + x.2.2.2.2.2.2) 0 0 ht (by omega) (Nat.le_refl _) hm (Int32.zero_add _) (Nat.zero_add _)
  refine ⟨t1, g1, ?_⟩
  unfold f_L_arePats
  rw [r_patCount, Option.bind_some, r_mass, Option.bind_some, r_graded, Option.bind_some, if_neg (show ¬ 12 < nI (nQ x) from nI_nlt (a := 12) h12 (by omega)), r_rank_none ho, bS_some, if_pos rfl, r_nextCool0 ho, bS_some, if_pos rfl]
  have e1 : nI (nQ x) - 1 = pI (nQ x) := by
    by_cases h0 : nQ x = 0
    · rw [h0]; decide
    · rw [pI_of h0]
      exact pk_sub (b := 1) (by omega)
  rw [Nat.sub_self, nI_0] at g2
  rw [e1]
  refine Eq.trans g2 ?_
  have h3 := p_260 ho (t := t1) (r := r) x.2.2.2.2.2.1 (nI (sU (dk x.2.2.1.2.1) (nQ x))) (sI (fmI x.2.2.1) (nQ x)) 13 1 (by omega) (by omega) (by omega)
  exact h3.trans (p_359 ho)
end AP
