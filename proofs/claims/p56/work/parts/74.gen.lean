section GN
variable {x t : MB} {q : RM}
theorem g_addPhase (hx : okB x) (ht : okB t) (hq : okR q) (k : Int32) (i : Int32) (v : Int32) : opS x t q (f_L_addPhase (sS x t (eR q)) k i v) := by
  have h8 : nF x ≤ 8 := hx.1.1
  have h12 : nQ x ≤ 12 := hx.2.2.1.1
  have hm : x.2.1.1 ≤ 100 := hx.2.1.1
  rcases j_phase hx k i v with ⟨z, hj, hz⟩ | ⟨hj, kk, ii, vv, rfl, rfl, rfl, hk, b1, b2, b3, b4, hn, hl⟩
  · by_cases hz8 : z = 8
    · rw [hz8] at hj
      exact ⟨_, x, t, q, d8_addPhase k i v hj, hx, ht, hq, rfl, rfl, fun _ => rfl⟩
    · obtain ⟨d, hd⟩ := dz_addPhase (t := t) (q := q) k i v hj (isV_ne hz) hz8
      exact ⟨_, x, t, _, hd, hx, ht, okR_den hq z d, rfl, rfl, fun _ => rfl⟩
  · exact ⟨_, _, t, _, p_addPhase hx hq hj hk hn, appM_ok hx hk ⟨b1, b2⟩ ⟨b3, b4⟩ hn ((lf_run hx).mpr hl), ht, okR_push hx hq, rfl, rfl, fun h => absurd h (nI_den (by omega))⟩
theorem g_removePhase (hx : okB x) (ht : okB t) (hq : okR q) (j : Int32) : opS x t q (f_L_removePhase (sS x t (eR q)) j) := by
  have h8 : nF x ≤ 8 := hx.1.1
  have h12 : nQ x ≤ 12 := hx.2.2.1.1
  have hm : x.2.1.1 ≤ 100 := hx.2.1.1
  rcases j_cut hx j with ⟨z, hj, hz⟩ | ⟨hj, i, rfl, hn, hl⟩
  · by_cases hz8 : z = 8
    · rw [hz8] at hj
      exact ⟨_, x, t, q, d8_removePhase j hj, hx, ht, hq, rfl, rfl, fun _ => rfl⟩
    · obtain ⟨d, hd⟩ := dz_removePhase (t := t) (q := q) j hj (isV_ne hz) hz8
      exact ⟨_, x, t, _, hd, hx, ht, okR_den hq z d, rfl, rfl, fun _ => rfl⟩
  · exact ⟨_, _, t, _, p_removePhase hx hq hj hn, cutM_ok hx hn ((lf_run hx).mpr hl), ht, okR_push hx hq, rfl, rfl, fun h => absurd h (nI_den (by omega))⟩
theorem g_start (hx : okB x) (ht : okB t) (hq : okR q)  : opS x t q (f_L_start (sS x t (eR q)) ) := by
  have h8 : nF x ≤ 8 := hx.1.1
  have h12 : nQ x ≤ 12 := hx.2.2.1.1
  have hm : x.2.1.1 ≤ 100 := hx.2.1.1
  rcases j_start hx with ⟨z, hj, hz⟩ | ⟨hj, hn, hl⟩
  · obtain ⟨d, hd⟩ := dz_start (t := t) (q := q)  hj (isV_ne hz)
    exact ⟨_, x, t, _, hd, hx, ht, okR_den hq z d, rfl, rfl, fun _ => rfl⟩
  · exact ⟨_, _, t, _, p_start hx hq hj hn, begM_ok hx hn, ht, okR_push hx hq, rfl, rfl, fun h => absurd h (nI_den (by have := (lf_facts (begM_ok hx hn)).1; omega))⟩
theorem g_stop (hx : okB x) (ht : okB t) (hq : okR q)  : opS x t q (f_L_stop (sS x t (eR q)) ) := by
  have h8 : nF x ≤ 8 := hx.1.1
  have h12 : nQ x ≤ 12 := hx.2.2.1.1
  have hm : x.2.1.1 ≤ 100 := hx.2.1.1
  rcases j_stop hx with ⟨z, hj, hz⟩ | hj
  · obtain ⟨d, hd⟩ := dz_stop (t := t) (q := q)  hj (isV_ne hz)
    exact ⟨_, x, t, _, hd, hx, ht, okR_den hq z d, rfl, rfl, fun _ => rfl⟩
  · exact ⟨_, _, t, _, p_stop hx hq hj , endM_ok hx, ht, okR_push hx hq, rfl, rfl, fun h => absurd h (nI_den (by have := (lf_facts hx).1; omega))⟩
theorem g_load (hx : okB x) (ht : okB t) (hq : okR q) (m : Int32) : opS x t q (f_L_load (sS x t (eR q)) m) := by
  have h8 : nF x ≤ 8 := hx.1.1
  have h12 : nQ x ≤ 12 := hx.2.2.1.1
  have hm : x.2.1.1 ≤ 100 := hx.2.1.1
  rcases j_load hx m with ⟨z, hj, hz⟩ | ⟨hj, k, rfl, b1, b2⟩
  · by_cases hz8 : z = 8
    · rw [hz8] at hj
      exact ⟨_, x, t, q, d8_load m hj, hx, ht, hq, rfl, rfl, fun _ => rfl⟩
    · obtain ⟨d, hd⟩ := dz_load (t := t) (q := q) m hj (isV_ne hz) hz8
      exact ⟨_, x, t, _, hd, hx, ht, okR_den hq z d, rfl, rfl, fun _ => rfl⟩
  · exact ⟨_, _, t, _, p_load hx hq hj b1 b2, loadM_ok hx b1 b2, ht, okR_push hx hq, rfl, rfl, fun h => absurd h (nI_den (by have := (loadM_ok hx b1 b2).2.1.2.1; exact Nat.lt_of_le_of_lt this (by omega)))⟩
theorem g_press (hx : okB x) (ht : okB t) (hq : okR q) (m : Int32) : opS x t q (f_L_press (sS x t (eR q)) m) := by
  have h8 : nF x ≤ 8 := hx.1.1
  have h12 : nQ x ≤ 12 := hx.2.2.1.1
  have hm : x.2.1.1 ≤ 100 := hx.2.1.1
  rcases j_press hx m with ⟨z, hj, hz, -⟩ | ⟨hj, k, rfl, b1, b2, b3, b4⟩
  · by_cases hz8 : z = 8
    · rw [hz8] at hj
      exact ⟨_, x, t, q, d8_press m hj, hx, ht, hq, rfl, rfl, fun _ => rfl⟩
    · obtain ⟨d, hd⟩ := dz_press (t := t) (q := q) m hj (isV_ne hz) hz8
      exact ⟨_, x, t, _, hd, hx, ht, okR_den hq z d, rfl, rfl, fun _ => rfl⟩
  · exact ⟨_, _, t, _, p_press hx hq hj b3 b4, prsM_ok hx ⟨b1, b2⟩ b3 b4, ht, okR_push hx hq, rfl, rfl, fun h => absurd h (nI_den (by omega))⟩
theorem g_gradePat (hx : okB x) (ht : okB t) (hq : okR q) (j : Int32) : opS x t q (f_L_gradePat (sS x t (eR q)) j) := by
  have h8 : nF x ≤ 8 := hx.1.1
  have h12 : nQ x ≤ 12 := hx.2.2.1.1
  have hm : x.2.1.1 ≤ 100 := hx.2.1.1
  obtain ⟨r7, h7⟩ := t_any (t := t) (q := q) hx j
  rcases j_grade hx j with ⟨z, hj, hz, -⟩ | ⟨hj, i, rfl, hn⟩
  · by_cases hz8 : z = 8
    · rw [hz8] at hj
      exact ⟨_, x, t, q, d8_gradePat j hj, hx, ht, hq, rfl, rfl, fun _ => rfl⟩
    · obtain ⟨d, hd⟩ := dz_gradePat (t := t) (q := q) j hj (isV_ne hz) hz8 h7
      exact ⟨_, x, t, _, hd, hx, ht, okR_den hq z d, rfl, rfl, fun _ => rfl⟩
  · exact ⟨_, _, t, _, p_gradePat hx hq hj hn h7, grdM_ok hx hn, ht, okR_push hx hq, rfl, rfl, fun h => absurd h (nI_den (by have := grdP_lt (x := x) i; omega))⟩
theorem g_crush (hx : okB x) (ht : okB t) (hq : okR q) (j : Int32) : opS x t q (f_L_crush (sS x t (eR q)) j) := by
  have h8 : nF x ≤ 8 := hx.1.1
  have h12 : nQ x ≤ 12 := hx.2.2.1.1
  have hm : x.2.1.1 ≤ 100 := hx.2.1.1
  rcases j_crush hx j with ⟨z, hj, hz, -⟩ | ⟨hj, i, rfl, hn, b1⟩
  · by_cases hz8 : z = 8
    · rw [hz8] at hj
      exact ⟨_, x, t, q, d8_crush j hj, hx, ht, hq, rfl, rfl, fun _ => rfl⟩
    · obtain ⟨d, hd⟩ := dz_crush (t := t) (q := q) j hj (isV_ne hz) hz8
      exact ⟨_, x, t, _, hd, hx, ht, okR_den hq z d, rfl, rfl, fun _ => rfl⟩
  · exact ⟨_, _, t, _, p_crush hx hq hj hn b1, crsM_ok hx hn b1, ht, okR_push hx hq, rfl, rfl, fun h => absurd h (nI_den (by omega))⟩
theorem g_run (hx : okB x) (ht : okB t) (hq : okR q) (m : Int32) : opS x t q (f_L_run (sS x t (eR q)) m) := by
  rcases j_run (x := x) m with hj | ⟨hj, k, rfl, b1, b2⟩
  · exact ⟨_, x, t, q, d8_run m hj, hx, ht, hq, rfl, rfl, fun _ => rfl⟩
  · exact ⟨_, _, t, _, p_run hx hq hj b2, itN_ok k hx, ht, okR_push hx hq, rfl, rfl, fun h => absurd h (nI_den (by omega))⟩
theorem g_undo (hx : okB x) (ht : okB t) (hq : okR q) : opS x t q (f_L_undo (sS x t (eR q))) := by
  have h8 := hq.2.1.2.1
  by_cases h0 : q.2.2.1.2.1 = 0
  · exact ⟨_, x, t, q, c_undo0 h0, hx, ht, hq, rfl, rfl, fun _ => rfl⟩
  · exact ⟨_, _, t, _, c_undo hq (by omega), hq.2.1.2.2 _, ht, okR_pop hq, rfl, rfl, fun h => absurd h (nI_den (by omega))⟩
theorem lg0 (h : Int64) : lg_cmp h h = 0 := by simp [lg_cmp]
def topH (h : HM) (x : MB) : Prop := 0 < h.2.1 ∧ h.2.2 ((h.1 + 7) % 8) = x
theorem top_push {h : HM} (ho : okHs h) (x : MB) : topH (pushH h x) x := ⟨by show 0 < (if h.2.1 + 1 < 8 then h.2.1 + 1 else 8); split <;> omega, pop_push ho x⟩
theorem top_pp {h : HM} (ho : okHs h) {x : MB} (ht : topH h x) (y : MB) : topH (popH (pushH h y)) x := by
  obtain ⟨h1, h2, h3⟩ := ho
  obtain ⟨g1, g2⟩ := ht
  refine ⟨?_, ?_⟩
  · show 0 < (if h.2.1 + 1 < 8 then h.2.1 + 1 else 8) - 1
    split <;> omega
  · show (if (((h.1 + 1) % 8 + 7) % 8 + 7) % 8 = h.1 then y else h.2.2 ((((h.1 + 1) % 8 + 7) % 8 + 7) % 8)) = x
    rw [show ((h.1 + 1) % 8 + 7) % 8 = h.1 by omega, if_neg (by omega)]
    exact g2
theorem u_top (hq : okR q) {y : MB} (h : topH q.2.2.1 y) : ∃ k, k < 8 ∧ f_L_undo (sS x t (eR q)) = some (nI k, sS y t (eR (withH q (popH q.2.2.1)))) := by
  have h8 := hq.2.1.2.1
  have h9 := c_undo (x := x) (t := t) hq h.1
  rw [h.2] at h9
  exact ⟨q.2.2.1.2.1 - 1, by have := h.1; omega, h9⟩
theorem p_187 (hx : okB x) (hq : okR q) {y : MB} (h : topH q.2.2.1 x) (p : Int32) : ∃ t1, okB t1 ∧ f_L_isForetold_187 p (sS y t (eR q)) (dgx x) 1 = some (1, sS x t1 (eR (withH q (popH q.2.2.1)))) := by
  obtain ⟨k, hk, e⟩ := u_top (x := y) (t := t) hq h
  refine ⟨_, itN_ok (lf x) hx, ?_⟩
  unfold f_L_isForetold_187
  rw [if_neg (by decide), e, bS_some, if_neg (nI_pos (by omega)), r_digest hx, bS_some, lg0, if_pos rfl]
theorem p_foretold (hx : okB x) (hq : okR q) {m : Nat} (h1 : 1 ≤ m) (h2 : m ≤ 240) : ∃ t1 q1, okB t1 ∧ okR q1 ∧ q1.1 = q.1 ∧ q1.2.1 = q.2.1 ∧ f_L_isForetold (sS x t (eR q)) (nI m) = some (1, sS x t1 (eR q1)) := by
  have hl := (lf_facts hx).1
  have hm := itN_ok m hx
  have hj : g_X0_judgeRun (eB x) (nI m) = some 0 := by
    rcases j_run (x := x) (nI m) with h | ⟨h, -⟩
    · have e : g_X0_judgeRun (eB x) (nI m) = some 0 := by
        show ((f_X7_isWithin (nI m) 1 240).bind fun r2 => _) = _
        rw [show f_X7_isWithin (nI m) 1 240 = some 1 from w_in (a := 1) (b := 240) h1 h2 (by omega)]
        rfl
      exact e
    · exact h
  obtain ⟨tc, g1, g2⟩ := p_arePats hm (t := itN (lf (itN m x)) (itN m x)) (r := eR (withH q (pushH q.2.2.1 x))) (itN_ok _ hm)
  obtain ⟨t1, g3, g4⟩ := p_187 (t := tc) hx (okR_push hx hq) (y := itN m x) (top_push hq.2.1 x) (nI m)
  refine ⟨t1, withH q (popH (pushH q.2.2.1 x)), g3, ⟨hq.1, popH_ok (pushH_ok hq.2.1 hx), hq.2.2⟩, rfl, rfl, ?_⟩
  have hpk := pkM_ge (lf x) (tmp x) x
  have hpl := pkM_le (lf x) (tmp x) x hx hx.2.1.2.1
  have htx : tmp x ≤ 200 := hx.2.1.2.1
  have emin : (if nI m < nI (lf x) then nI m else nI (lf x)) = nI (min m (lf x)) := by
    by_cases h : m < lf x
    · rw [if_pos (nI_lt h (by omega)), Nat.min_eq_left (by omega)]
    · rw [if_neg (nI_nlt (by omega) (by omega)), Nat.min_eq_right (by omega)]
  have htm : tmp (itN (min m (lf x)) x) ≤ 200 := (itN_ok _ hx).2.1.2.1
  have e164 : ∀ k0 k1 k2 : Int32, k0 = k1 + k2 → ∀ t0, t0 = itN (lf (itN m x)) (itN m x) → ∀ tq, f_L_isForetold_164 (nI m) (sS (itN m x) tq (eR (withH q (pushH q.2.2.1 x)))) (dgx x) k0 k1 k2 = some (1, sS x t1 (eR (withH q (popH (pushH q.2.2.1 x))))) := by
    intro k0 k1 k2 hk t0 e0 tq
    unfold f_L_isForetold_164
    rw [if_pos hk, p_isCycle hm, bS_some, if_neg (by decide), g2, bS_some, if_neg (by decide)]
    exact g4
  unfold f_L_isForetold
  rw [r_digest hx, bS_some, r_tempAfter hx h2, bT_inl, r_smoothAfter hx h2, bT_inl, r_left hx, bS_some, r_finished, Option.bind_some, r_peak hx, bS_some, show (0 : Int32) = nI 0 from rfl, r_tempAfter hx (Nat.zero_le _), bT_inl, r_temperature, Option.bind_some, if_pos (show nI (tmp (itN 0 x)) = nI (tmp x) from rfl), Option.bind_some, if_neg (nI_nlt hpk.1 (by omega)), emin, r_tempAfter hx (by omega), bT_inl, if_neg (nI_nlt (hpk.2 _ (by omega) (Nat.le_refl _)) (by omega)), r_digest hx, bS_some, lg0, if_pos (show (0 : Int32) = nI 0 from rfl)]
  unfold f_L_isForetold_87
  rw [p_run hx hq hj h2, bS_some, if_neg (by decide), emin, if_pos (by rw [Nat.min_comm]), r_temperature, Option.bind_some, if_pos rfl, r_smoothness, Option.bind_some, if_pos rfl, r_left hm, bS_some, if_pos (by rw [lf_it m hx, pk_sub (by omega), show lf x - min (lf x) m = lf x - m by omega]), r_finished, Option.bind_some, fin_it m hx]
  by_cases h0 : lf x = 0
  · rw [if_pos (show nI (lf x) ≤ 0 by rw [h0]; decide), if_neg (by omega)]
    exact e164 _ _ _ (Int32.add_zero _).symm _ rfl _
  · rw [if_neg (show ¬ nI (lf x) ≤ 0 from nI_nle (by omega) (by omega))]
    by_cases hlt : m < lf x
    · rw [if_pos (nI_lt hlt (by omega)), if_neg (by omega)]
      exact e164 _ _ _ (Int32.add_zero _).symm _ rfl _
    · rw [if_neg (nI_nlt (by omega) (by omega)), if_pos (by omega)]
      exact e164 _ _ _ rfl _ rfl _
end GN
