section PP
variable {x t : MB} {q : RM}
theorem p_348 (hx : okB x) (hq : okR q) {y : MB} (h : topH q.2.2.1 x) (p : Int32) : ∃ t1, okB t1 ∧ f_L_isPressed_348 p (sS y t (eR q)) (dgx x) 1 = some (1, sS x t1 (eR (withH q (popH q.2.2.1)))) := by
  obtain ⟨k, hk, e⟩ := u_top (x := y) (t := t) hq h
  refine ⟨_, itN_ok (lf x) hx, ?_⟩
  unfold f_L_isPressed_348
  rw [if_neg (by decide), e, bS_some, if_neg (nI_pos (by omega)), r_digest hx, bS_some, lg0, if_pos rfl]
theorem p_381 (hx : okB x) (hq : okR q) {y : MB} (h : topH q.2.2.1 x) (p : Int32) : ∃ t1, okB t1 ∧ f_L_isPressed_381 p (sS y t (eR q)) (dgx x) 1 = some (1, sS x t1 (eR (withH q (popH q.2.2.1)))) := by
  obtain ⟨k, hk, e⟩ := u_top (x := y) (t := t) hq h
  refine ⟨_, itN_ok (lf x) hx, ?_⟩
  unfold f_L_isPressed_381
  rw [if_neg (by decide), e, bS_some, if_neg (nI_pos (by omega)), r_digest hx, bS_some, lg0, if_pos rfl]
theorem r_den (z d : Int32) (hz : z ≠ 0) : f_L_denial (sS x t (eR (den q z d))) = some (z, sS x t (eR (den q z d))) := by
  unfold f_L_denial g_X7_denial f_X7_denial f_X7_requireDenial
  rw [if_neg (show ¬ (sS x t (eR (den q z d))).2.2.2.2.2.2.2.1 = 0 from hz)]
  rfl
/-- behind the crush that was undone: the pat is graded, or denied for being hot -/
theorem p_240 (hx : okB x) {y : MB} (hy : okB y) (ht : okB t) (hq : okR q) (h : topH q.2.2.1 x) {j : Nat} (hj : j < nQ y) (p : Int32) : ∃ t1 q1, okB t1 ∧ okR q1 ∧ q1.1 = q.1 ∧ q1.2.1 = q.2.1 ∧ f_L_isPressed_240 p (sS y t (eR q)) (dgx x) (nI j) 1 = some (1, sS x t1 (eR q1)) := by
  have h12 : nQ y ≤ 12 := hy.2.2.1.1
  obtain ⟨r7, h7⟩ := t_any (x := y) (t := t) (q := q) hy (nI j)
  unfold f_L_isPressed_240
  rw [r_firm hy hj, bT_inl]
  rcases j_grade hy (nI j) with ⟨z, hz, hv, hh⟩ | ⟨hz, -⟩
  · obtain ⟨e6, hT⟩ := hh j rfl hj
    subst e6
    obtain ⟨d, hd⟩ := dz_gradePat (t := t) (q := q) (nI j) hz (by decide) (by decide) h7
    obtain ⟨t1, g1, g2⟩ := p_381 (t := t) hx (okR_den hq 6 d) (y := y) h p
    refine ⟨t1, withH (den q 6 d) (popH (den q 6 d).2.2.1), g1, ⟨hq.1, popH_ok hq.2.1, hq.2.2⟩, rfl, rfl, ?_⟩
    rw [hd, bS_some, if_pos rfl, if_neg (by decide), r_den 6 d (by decide), bS_some, if_pos rfl, r_isCool hy hj, bT_inl, if_neg (show ¬ y.2.2.1.2.1 j ≤ 30 by omega), if_pos rfl]
    exact g2
  · have hg := grdP_lt (x := y) j
    have e := p_gradePat (t := t) hy hq hz hj h7
    have ho2 := okR_push hy hq
    obtain ⟨ta, g1, g2⟩ := p_arePats (grdM_ok hy hj) (t := t) (r := eR (withH q (pushH q.2.2.1 y))) ht
    obtain ⟨k, hk, e3⟩ := u_top (x := grdM j y) (t := ta) ho2 (top_push hq.2.1 y)
    have ho3 : okR (withH (withH q (pushH q.2.2.1 y)) (popH (withH q (pushH q.2.2.1 y)).2.2.1)) := ⟨hq.1, popH_ok (pushH_ok hq.2.1 hy), hq.2.2⟩
    obtain ⟨t1, g3, g4⟩ := p_348 (t := ta) hx ho3 (y := y) (top_pp hq.2.1 h y) p
    refine ⟨t1, withH (withH (withH q (pushH q.2.2.1 y)) (popH (withH q (pushH q.2.2.1 y)).2.2.1)) (popH (withH (withH q (pushH q.2.2.1 y)) (popH (withH q (pushH q.2.2.1 y)).2.2.1)).2.2.1), g3, ⟨hq.1, popH_ok (popH_ok (pushH_ok hq.2.1 hy)), hq.2.2⟩, rfl, rfl, ?_⟩
    have e315 : ∀ k0 : Int32, nI (97 + grdP y j) = k0 → f_L_isPressed_315 p (sS (grdM j y) t (eR (withH q (pushH q.2.2.1 y)))) (dgx x) 1 (nI (97 + grdP y j)) k0 = f_L_isPressed_348 p (sS y ta (eR (withH (withH q (pushH q.2.2.1 y)) (popH (withH q (pushH q.2.2.1 y)).2.2.1)))) (dgx x) 1 := by
      intro k0 hk0
      unfold f_L_isPressed_315
      rw [if_neg (by decide), if_pos hk0, g2, bS_some, if_neg (by decide), e3, bS_some, if_neg (nI_pos (by omega))]
    rw [e, bS_some, if_neg (nI_den (by omega))]
    by_cases c1 : fmI y.2.2.1 j < 80
    · rw [if_pos c1]
      by_cases c2 : fmI y.2.2.1 j < 60
      · rw [if_pos c2]
        by_cases c3 : fmI y.2.2.1 j < 40
        · rw [if_pos c3]
          by_cases c4 : fmI y.2.2.1 j < 20
          · rw [if_pos c4, e315 101 (by unfold grdP; rw [if_pos c1, if_pos c2, if_pos c3, if_pos c4]; rfl)]
            exact g4
          · rw [if_neg c4, e315 100 (by unfold grdP; rw [if_pos c1, if_pos c2, if_pos c3, if_neg c4]; rfl)]
            exact g4
        · rw [if_neg c3, e315 99 (by unfold grdP; rw [if_pos c1, if_pos c2, if_neg c3]; rfl)]
          exact g4
      · rw [if_neg c2, e315 98 (by unfold grdP; rw [if_pos c1, if_neg c2]; rfl)]
        exact g4
    · rw [if_neg c1, e315 97 (by unfold grdP; rw [if_neg c1]; rfl)]
      exact g4
theorem p_38 (hx : okB x) (ht : okB t) (hq : okR q) {m : Nat} (h1 : 1 ≤ m) (h2 : m ≤ 20) (k0 k1 : Int32) (hk : k0 + k1 = nI (crkM x)) : ∃ t1 q1, okB t1 ∧ okR q1 ∧ q1.1 = q.1 ∧ q1.2.1 = q.2.1 ∧ f_L_isPressed_38 (nI m) (sS x t (eR q)) (dgx x) (nI x.2.1.1) (nI (nQ x)) k0 k1 = some (1, sS x t1 (eR q1)) := by
  have h12 : nQ x ≤ 12 := hx.2.2.1.1
  have hm : x.2.1.1 ≤ 100 := hx.2.1.1
  have ht2 : tmp x ≤ 200 := hx.2.1.2.1
  unfold f_L_isPressed_38
  rcases j_press hx (nI m) with ⟨z, hj, hz, hor⟩ | ⟨hj, k, ek, -, -, b3, b4⟩
  · have hor := hor m rfl h1 h2
    have hd : ∃ q1, okR q1 ∧ q1.1 = q.1 ∧ q1.2.1 = q.2.1 ∧ f_L_press (sS x t (eR q)) (nI m) = some (-100000000, sS x t (eR q1)) := by
      by_cases hz8 : z = 8
      · rw [hz8] at hj
        exact ⟨q, hq, rfl, rfl, d8_press _ hj⟩
      · obtain ⟨d, hd⟩ := dz_press (t := t) (q := q) _ hj (isV_ne hz) hz8
        exact ⟨_, okR_den hq z d, rfl, rfl, hd⟩
    obtain ⟨q1, c1, c2, c3, c4⟩ := hd
    refine ⟨_, q1, itN_ok (lf x) hx, c1, c2, c3, ?_⟩
    rw [c4, bS_some, if_pos rfl]
    by_cases hlt : x.2.1.1 < m
    · rw [if_pos (nI_lt hlt (by omega)), r_digest hx, bS_some, lg0, if_pos rfl]
    · rw [if_neg (nI_nlt (by omega) (by omega)), if_pos (show nI (nQ x) = 12 by rw [show nQ x = 12 by omega]; rfl), r_digest hx, bS_some, lg0, if_pos rfl]
  · have ekm : m = k := (nI_eq (by omega) (by omega)).mp ek
    subst ekm
    have hy := prsM_ok hx ⟨h1, h2⟩ b3 b4
    have hq1 := okR_push hx hq
    have hn : nQ x < nQ (prsM m x) := Nat.lt_succ_self _
    have eM : (prsM m x).2.2.1.1 (nQ x) = m := if_pos rfl
    have eT9 : (prsM m x).2.2.1.2.1 (nQ x) = tmp x := if_pos rfl
    have eS : (prsM m x).2.2.1.2.2.1 (nQ x) = x.2.1.2.2.1 := if_pos rfl
    have eC9 : (prsM m x).2.2.1.2.2.2.1 (nQ x) = crkM x := if_pos rfl
    have eFm : fmI (prsM m x).2.2.1 (nQ x) = nI x.2.1.2.2.1 - 15 * nI (crkM x) := by unfold fmI; rw [eS, eC9]
    obtain ⟨ta, g1, g2⟩ := p_arePats hy (t := t) (r := eR (withH q (pushH q.2.2.1 x))) ht
    -- the crush
    have hjc : g_X0_judgeCrush (eB (prsM m x)) (nI (nQ x)) = some 0 := by
      rcases j_crush hy (nI (nQ x)) with ⟨z, -, -, hh⟩ | ⟨h, -⟩
      · have h9 := hh (nQ x) rfl hn
        rw [eM] at h9
        have h10 : (prsM m x).2.1.1 = x.2.1.1 - m := rfl
        omega
      · exact h
    have hlc : (prsM m x).2.1.1 + (prsM m x).2.2.1.1 (nQ x) ≤ 100 := by
      rw [eM]
      show x.2.1.1 - m + m ≤ 100
      omega
    have ec := p_crush (t := ta) hy hq1 hjc hn hlc
    have hz := crsM_ok hy hn hlc
    have hq2 := okR_push hy hq1
    obtain ⟨tb, g3, g4⟩ := p_arePats hz (t := ta) (r := eR (withH (withH q (pushH q.2.2.1 x)) (pushH (withH q (pushH q.2.2.1 x)).2.2.1 (prsM m x)))) g1
    obtain ⟨k9, hk9, eu⟩ := u_top (x := crsM (nQ x) (prsM m x)) (t := tb) hq2 (top_push hq1.2.1 (prsM m x))
    have hq3 : okR (withH (withH (withH q (pushH q.2.2.1 x)) (pushH (withH q (pushH q.2.2.1 x)).2.2.1 (prsM m x))) (popH (withH (withH q (pushH q.2.2.1 x)) (pushH (withH q (pushH q.2.2.1 x)).2.2.1 (prsM m x))).2.2.1)) := ⟨hq.1, popH_ok (pushH_ok hq1.2.1 hy), hq.2.2⟩
    obtain ⟨t1, q1, f1, f2, f3, f4, f5⟩ := p_240 (t := tb) hx hy g3 hq3 (top_pp hq1.2.1 (top_push hq.2.1 x) (prsM m x)) hn (nI m)
    refine ⟨t1, q1, f1, f2, f3, f4, ?_⟩
    have eheat : (nI (tmp (prsM m x)) * (nI x.2.1.1 - nI m) + 20 * nI m) / nI x.2.1.1 = nI (tmp (crsM (nQ x) (prsM m x))) := by
      have e1 : tmp (crsM (nQ x) (prsM m x)) = (tmp x * (x.2.1.1 - m) + 20 * m) / (x.2.1.1 - m + m) := by
        show ((prsM m x).2.1.2.1 * (prsM m x).2.1.1 + 20 * (prsM m x).2.2.1.1 (nQ x)) / ((prsM m x).2.1.1 + (prsM m x).2.2.1.1 (nQ x)) = _
        rw [eM]
        rfl
      have hle : tmp x * (x.2.1.1 - m) ≤ 200 * 100 := Nat.mul_le_mul ht2 (by omega)
      rw [show tmp (prsM m x) = tmp x from rfl, pk_sub b3, pk_mul, show (20 : Int32) * nI m = nI (20 * m) from pk_mul 20 m, nI_add, pk_div (by omega) (by omega) (by omega), e1, show x.2.1.1 - m + m = x.2.1.1 by omega]
    have e166 : f_L_isPressed_166 (nI m) (sS (prsM m x) ta (eR (withH q (pushH q.2.2.1 x)))) (dgx x) (nI x.2.1.1) (nI (nQ x)) (nI (nQ x)) 1 = some (1, sS x t1 (eR q1)) := by
      unfold f_L_isPressed_166
      rw [r_temperature, Option.bind_some, if_neg (nI_ne0 (by omega) (by omega)), if_neg (by decide), ec, bS_some, if_pos (show nI ((prsM m x).2.1.1 + (prsM m x).2.2.1.1 (nQ x)) = nI x.2.1.1 by
        rw [eM]
        show nI (x.2.1.1 - m + m) = _
        rw [show x.2.1.1 - m + m = x.2.1.1 by omega]), r_temperature, Option.bind_some, if_pos eheat.symm, r_patCount, Option.bind_some, if_pos (show nI (nQ (crsM (nQ x) (prsM m x))) = nI (nQ x) from rfl), g4, bS_some, if_neg (by decide), eu, bS_some, if_neg (nI_pos (by omega))]
      exact f5
    rw [p_press hx hq hj b3 b4, bS_some, if_neg (nI_den (by omega)), if_pos rfl, r_patMass hy hn, bT_inl, eM, if_pos rfl, r_mass, Option.bind_some, if_pos (show nI (prsM m x).2.1.1 = nI x.2.1.1 - nI m from (pk_sub b3).symm), r_cracks hy hn, bT_inl, eC9, if_pos hk.symm, r_patTemp hy hn, bT_inl, r_temperature, Option.bind_some, eT9, if_pos (show nI (tmp x) = nI (tmp (prsM m x)) from rfl), r_firm hy hn, bT_inl, r_smoothness, Option.bind_some, eFm, hk, if_pos (show nI x.2.1.2.2.1 - 15 * nI (crkM x) = nI (prsM m x).2.1.2.2.1 - 15 * nI (crkM x) from rfl), g2, bS_some, if_neg (by decide)]
    exact e166
theorem p_pressed (hx : okB x) (hq : okR q) {m : Nat} (h1 : 1 ≤ m) (h2 : m ≤ 20) : ∃ t1 q1, okB t1 ∧ okR q1 ∧ q1.1 = q.1 ∧ q1.2.1 = q.2.1 ∧ f_L_isPressed (sS x t (eR q)) (nI m) = some (1, sS x t1 (eR q1)) := by
  obtain ⟨a1, a2, a3, a4⟩ := hx.2.1
  have e10 : nI x.2.1.2.2.2 / 10 = nI (x.2.1.2.2.2 / 10) := pk_div (d := 10) (by omega) (by omega) (by omega)
  unfold f_L_isPressed
  rw [r_digest hx, bS_some, r_mass, Option.bind_some, r_patCount, Option.bind_some, r_stress, Option.bind_some, r_temperature, Option.bind_some, e10]
  by_cases h : tmp x ≤ 100
  · rw [if_pos (show nI (tmp x) ≤ 100 from nI_le (b := 100) h (by omega))]
    exact p_38 hx (itN_ok _ hx) hq h1 h2 _ _ (by unfold crkM; rw [if_pos h]; exact nI_add _ 0)
  · rw [if_neg (show ¬ nI (tmp x) ≤ 100 from nI_ge (a := 100) (Nat.lt_of_not_le h) (Nat.lt_of_le_of_lt a2 (by decide)))]
    exact p_38 hx (itN_ok _ hx) hq h1 h2 _ _ (by unfold crkM; rw [if_neg h]; exact nI_add _ 1)
theorem p_isFit (hx : okB x) (ht : okB t) (hq : okR q) : ∃ t1 q1, okB t1 ∧ okR q1 ∧ q1.1 = q.1 ∧ q1.2.1 = q.2.1 ∧ f_L_isFit (sS x t (eR q)) = some (1, sS x t1 (eR q1)) := by
  obtain ⟨t2, a1, a2⟩ := p_arePats hx (t := itN (lf x) x) (r := eR q) (itN_ok _ hx)
  obtain ⟨t3, q3, b1, b2, b3, b4, b5⟩ := p_foretold (t := t2) hx hq (m := 1) (by omega) (by omega)
  obtain ⟨t4, q4, c1, c2, c3, c4, c5⟩ := p_foretold (t := t3) hx b2 (m := 17) (by omega) (by omega)
  obtain ⟨t5, q5, d1, d2, d3, d4, d5⟩ := p_foretold (t := t4) hx c2 (m := 200) (by omega) (by omega)
  obtain ⟨t6, q6, e1, e2, e3, e4, e5⟩ := p_pressed (t := t5) hx d2 (m := 1) (by omega) (by omega)
  obtain ⟨t7, q7, f1, f2, f3, f4, f5⟩ := p_pressed (t := t6) hx e2 (m := 13) (by omega) (by omega)
  refine ⟨t7, q7, f1, f2, by rw [f3, e3, d3, c3, b3], by rw [f4, e4, d4, c4, b4], ?_⟩
  unfold f_L_isFit
  rw [p_isCycle hx, bS_some, if_neg (by decide), a2, bS_some, if_neg (by decide), show f_L_isForetold (sS x t2 (eR q)) 1 = _ from b5, bS_some, if_neg (by decide), show f_L_isForetold (sS x t3 (eR q3)) 17 = _ from c5, bS_some, if_neg (by decide), show f_L_isForetold (sS x t4 (eR q4)) 200 = _ from d5, bS_some, if_neg (by decide), show f_L_isPressed (sS x t5 (eR q5)) 1 = _ from e5, bS_some, if_neg (by decide), show f_L_isPressed (sS x t6 (eR q6)) 13 = _ from f5, bS_some, if_neg (by decide)]
end PP
