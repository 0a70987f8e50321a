/-! the calls that change, over the model -/
abbrev HM : Type := Nat × Nat × (Nat → MB)
abbrev RM : Type := MB × Int32 × HM × SX6 × Int32 × Int32 × Int32 × Int32
def eHst (h : HM) : SX3 := (nI h.1, nI h.2.1, fun i => eB (h.2.2 i))
def eR (q : RM) : R8 := (eB q.1, q.2.1, eHst q.2.2.1, q.2.2.2)
def okHs (h : HM) : Prop := h.1 < 8 ∧ h.2.1 ≤ 8 ∧ ∀ i, okB (h.2.2 i)
def okR (q : RM) : Prop := okB q.1 ∧ okHs q.2.2.1 ∧ q.2.2.2.1.2.1 = 0
def pushH (h : HM) (x : MB) : HM := ((h.1 + 1) % 8, (if h.2.1 + 1 < 8 then h.2.1 + 1 else 8), fun j => if j = h.1 then x else h.2.2 j)
def popH (h : HM) : HM := ((h.1 + 7) % 8, h.2.1 - 1, h.2.2)
def withH (q : RM) (h : HM) : RM := (q.1, q.2.1, h, q.2.2.2)
def den (q : RM) (z d : Int32) : RM := (q.1, q.2.1, q.2.2.1, q.2.2.2.1, q.2.2.2.2.1, z, d, 0)
theorem bE7_inl {α ρ : Type} (a : α) (S : SX7) (k : α → SX0 → SX0 → SX0 → Int32 → SX3 → SX6 → Int32 → Int32 → Int32 → Int32 → Option ((ρ ⊕ String) × SX7)) : bE7 (some (Sum.inl a, S)) k = k a S.1 S.2.1 S.2.2.1 S.2.2.2.1 S.2.2.2.2.1 S.2.2.2.2.2.1 S.2.2.2.2.2.2.1 S.2.2.2.2.2.2.2.1 S.2.2.2.2.2.2.2.2.1 S.2.2.2.2.2.2.2.2.2 := rfl
theorem bE7_inr {α ρ : Type} (E : String) (S : SX7) (k : α → SX0 → SX0 → SX0 → Int32 → SX3 → SX6 → Int32 → Int32 → Int32 → Int32 → Option ((ρ ⊕ String) × SX7)) : bE7 (some ((Sum.inr E : α ⊕ String), S)) k = some (Sum.inr E, S) := rfl
theorem bP_some {α β γ : Type} (a : α) (b : β) (k : α → β → Option γ) : bP (some (a, b)) k = k a b := rfl
theorem pushH_ok {h : HM} (ho : okHs h) {x : MB} (hx : okB x) : okHs (pushH h x) := by
  obtain ⟨h1, h2, h3⟩ := ho
  refine ⟨Nat.mod_lt _ (by omega), ?_, fun i => ?_⟩
  · show (if h.2.1 + 1 < 8 then h.2.1 + 1 else 8) ≤ 8
    split <;> omega
  · show okB (if i = h.1 then x else h.2.2 i)
    split
    · exact hx
    · exact h3 i
theorem popH_ok {h : HM} (ho : okHs h) : okHs (popH h) := ⟨Nat.mod_lt _ (by omega), by show h.2.1 - 1 ≤ 8; have := ho.2.1; omega, ho.2.2⟩
theorem s_push {h : HM} (ho : okHs h) {x : MB} (hx : okB x) : g_X3_push (eHst h) (eB x) = some (eHst (pushH h x)) := by
  obtain ⟨h1, h2, h3⟩ := ho
  unfold g_X3_push
  have e1 : (eHst h).1 = nI h.1 := rfl
  have e2 : (eHst h).2.1 = nI h.2.1 := rfl
  rw [e1, e2, if_neg (nI_in (by omega) (by omega)), s_copy hx, Option.bind_some, nI_1, nI_1, show nI (h.1 + 1) - nI (h.1 + 1) / 8 * 8 = nI ((h.1 + 1) % 8) from pk_rem (d := 8) (by omega) (by omega) (by omega), nI_clamp (by omega)]
  have e3 : (if nI (h.2.1 + 1) < 8 then nI (h.2.1 + 1) else 8) = nI (if h.2.1 + 1 < 8 then h.2.1 + 1 else 8) := by
    by_cases h9 : h.2.1 + 1 < 8
    · rw [if_pos (show nI (h.2.1 + 1) < 8 from nI_lt (b := 8) h9 (by omega)), if_pos h9]
    · rw [if_neg (show ¬ nI (h.2.1 + 1) < 8 from nI_nlt (b := 8) (by omega) (by omega)), if_neg h9]
      rfl
  rw [e3]
  unfold eHst pushH va_up
  simp only
  congr 3
  funext j
  by_cases hj : j = h.1
  · rw [if_pos hj, if_pos hj]
  · rw [if_neg hj, if_neg hj]
theorem s_pop {h : HM} (ho : okHs h) (hk : 0 < h.2.1) (b : SX0) : g_X3_pop (eHst h) b = some (eHst (popH h), eB (h.2.2 ((h.1 + 7) % 8))) := by
  obtain ⟨h1, h2, h3⟩ := ho
  unfold g_X3_pop
  have e1 : (eHst h).1 = nI h.1 := rfl
  have e2 : (eHst h).2.1 = nI h.2.1 := rfl
  have e4 : hq (nI h.1) = nI ((h.1 + 7) % 8) := by
    unfold hq
    rw [show nI h.1 + 8 = nI (h.1 + 8) from nI_add _ 8, show nI (h.1 + 8) - 1 = nI (h.1 + 7) from pk_sub (a := h.1 + 8) (b := 1) (by omega)]
    exact pk_rem (d := 8) (by omega) (by omega) (by omega)
  rw [e1, e2, if_neg (show ¬ nI h.2.1 ≤ 0 from nI_nle hk (by omega)), if_neg (nI_in (by omega) (by omega)), e4, nI_clamp (show (h.1 + 7) % 8 < 2 ^ 31 by omega), show (eHst h).2.2 ((h.1 + 7) % 8) = eB (h.2.2 ((h.1 + 7) % 8)) from rfl, s_copy (h3 _), Option.bind_some, show nI h.2.1 - 1 = nI (h.2.1 - 1) from pk_sub (b := 1) hk]
  rfl
theorem pop_push {h : HM} (ho : okHs h) (x : MB) : (pushH h x).2.2 (((pushH h x).1 + 7) % 8) = x := by
  show (if ((h.1 + 1) % 8 + 7) % 8 = h.1 then x else h.2.2 _) = x
  rw [if_pos]
  have := ho.1
  omega
section OP
variable {x t : MB} {q : RM}
theorem rn8 : f_X7_requireRightNumbers (sS x t (eR q)).1 (sS x t (eR q)).2.1 (sS x t (eR q)).2.2.1 (sS x t (eR q)).2.2.2.1 (sS x t (eR q)).2.2.2.2.1 (sS x t (eR q)).2.2.2.2.2.1 (sS x t (eR q)).2.2.2.2.2.2.1 (sS x t (eR q)).2.2.2.2.2.2.2.1 (sS x t (eR q)).2.2.2.2.2.2.2.2.1 (sS x t (eR q)).2.2.2.2.2.2.2.2.2 8 = some (.inr "java/lang/IllegalArgumentException", sS x t (eR q)) := by
  unfold f_X7_requireRightNumbers
  rw [if_pos rfl]
theorem rn {z : Int32} (h : z ≠ 8) : f_X7_requireRightNumbers (sS x t (eR q)).1 (sS x t (eR q)).2.1 (sS x t (eR q)).2.2.1 (sS x t (eR q)).2.2.2.1 (sS x t (eR q)).2.2.2.2.1 (sS x t (eR q)).2.2.2.2.2.1 (sS x t (eR q)).2.2.2.2.2.2.1 (sS x t (eR q)).2.2.2.2.2.2.2.1 (sS x t (eR q)).2.2.2.2.2.2.2.2.1 (sS x t (eR q)).2.2.2.2.2.2.2.2.2 z = some (.inl (), sS x t (eR q)) := by
  unfold f_X7_requireRightNumbers
  rw [if_neg h]
theorem ri8 : f_X7_requireRightIndex (sS x t (eR q)).1 (sS x t (eR q)).2.1 (sS x t (eR q)).2.2.1 (sS x t (eR q)).2.2.2.1 (sS x t (eR q)).2.2.2.2.1 (sS x t (eR q)).2.2.2.2.2.1 (sS x t (eR q)).2.2.2.2.2.2.1 (sS x t (eR q)).2.2.2.2.2.2.2.1 (sS x t (eR q)).2.2.2.2.2.2.2.2.1 (sS x t (eR q)).2.2.2.2.2.2.2.2.2 8 = some (.inr "java/lang/IndexOutOfBoundsException", sS x t (eR q)) := by
  unfold f_X7_requireRightIndex
  rw [if_pos rfl]
theorem ri {z : Int32} (h : z ≠ 8) : f_X7_requireRightIndex (sS x t (eR q)).1 (sS x t (eR q)).2.1 (sS x t (eR q)).2.2.1 (sS x t (eR q)).2.2.2.1 (sS x t (eR q)).2.2.2.2.1 (sS x t (eR q)).2.2.2.2.2.1 (sS x t (eR q)).2.2.2.2.2.2.1 (sS x t (eR q)).2.2.2.2.2.2.2.1 (sS x t (eR q)).2.2.2.2.2.2.2.2.1 (sS x t (eR q)).2.2.2.2.2.2.2.2.2 z = some (.inl (), sS x t (eR q)) := by
  unfold f_X7_requireRightIndex
  rw [if_neg h]
theorem ra0 (m : Int32) : f_X7_requireAllowed (sS x t (eR q)).1 (sS x t (eR q)).2.1 (sS x t (eR q)).2.2.1 (sS x t (eR q)).2.2.2.1 (sS x t (eR q)).2.2.2.2.1 (sS x t (eR q)).2.2.2.2.2.1 (sS x t (eR q)).2.2.2.2.2.2.1 (sS x t (eR q)).2.2.2.2.2.2.2.1 (sS x t (eR q)).2.2.2.2.2.2.2.2.1 (sS x t (eR q)).2.2.2.2.2.2.2.2.2 0 m = some (.inl (), sS x t (eR q)) := by
  unfold f_X7_requireAllowed
  rw [if_pos rfl]
theorem ra {z : Int32} (h : z ≠ 0) (m : Int32) : ∃ d, f_X7_requireAllowed (sS x t (eR q)).1 (sS x t (eR q)).2.1 (sS x t (eR q)).2.2.1 (sS x t (eR q)).2.2.2.1 (sS x t (eR q)).2.2.2.2.1 (sS x t (eR q)).2.2.2.2.2.1 (sS x t (eR q)).2.2.2.2.2.2.1 (sS x t (eR q)).2.2.2.2.2.2.2.1 (sS x t (eR q)).2.2.2.2.2.2.2.2.1 (sS x t (eR q)).2.2.2.2.2.2.2.2.2 z m = some (.inr "java/lang/UnsupportedOperationException", sS x t (eR (den q z d))) := by
  have e : ∃ d, g_X0_detailOf (sS x t (eR q)).1 z m = some d := by
    unfold g_X0_detailOf f_X0_detailOf
    split
    · exact ⟨_, rfl⟩
    · split
      · exact ⟨_, rfl⟩
      · split
        · exact ⟨_, rfl⟩
        · split <;> exact ⟨_, rfl⟩
  obtain ⟨d, hd⟩ := e
  refine ⟨d, ?_⟩
  unfold f_X7_requireAllowed
  rw [if_neg h, hd]
  rfl
theorem c_push (hx : okB x) (hq : okR q) : g_X3_push (sS x t (eR q)).2.2.2.2.1 (sS x t (eR q)).1 = some (eHst (pushH q.2.2.1 x)) := s_push hq.2.1 hx
def opS (x t : MB) (q : RM) (o : Option (Int32 × SX7)) : Prop := ∃ v x1 t1 q1, o = some (v, sS x1 t1 (eR q1)) ∧ okB x1 ∧ okB t1 ∧ okR q1 ∧ q1.1 = q.1 ∧ q1.2.1 = q.2.1 ∧ (v = -100000000 → x1 = x)
theorem okR_push (hx : okB x) (hq : okR q) : okR (withH q (pushH q.2.2.1 x)) := ⟨hq.1, pushH_ok hq.2.1 hx, hq.2.2⟩
theorem okR_den (hq : okR q) (z d : Int32) : okR (den q z d) := hq
theorem nI_den {k : Nat} (h : k < 100000) : nI k ≠ -100000000 := by
  intro h9
  exact absurd (h9 ▸ nI_pos (n := k) (by omega)) (by decide)
theorem d8_addPhase (k : Int32) (i : Int32) (v : Int32) (hj : g_X0_judgePhase (eB x) k i v = some 8) : f_L_addPhase (sS x t (eR q)) k i v = some (-100000000, sS x t (eR q)) := by
  unfold f_L_addPhase g_X7_addPhase f_X7_addPhase
  rw [show g_X0_judgePhase (sS x t (eR q)).1 k i v = some 8 from hj, Option.bind_some, rn8, bE7_inr]
  rfl
theorem dz_addPhase (k : Int32) (i : Int32) (v : Int32) {z : Int32} (hj : g_X0_judgePhase (eB x) k i v = some z) (hz : z ≠ 0) (h8 : z ≠ 8) : ∃ d, f_L_addPhase (sS x t (eR q)) k i v = some (-100000000, sS x t (eR (den q z d))) := by
  obtain ⟨d, hd⟩ := ra (x := x) (t := t) (q := q) hz 8
  refine ⟨d, ?_⟩
  unfold f_L_addPhase g_X7_addPhase f_X7_addPhase
  rw [show g_X0_judgePhase (sS x t (eR q)).1 k i v = some z from hj, Option.bind_some]
  rw [rn (z := z) h8, bE7_inl]
  rw [hd, bE7_inr]
  rfl
theorem p_addPhase (hx : okB x) (hq : okR q) {k : Nat} {i : Nat} {v : Nat} (hj : g_X0_judgePhase (eB x) (nI k) (nI i) (nI v) = some 0) (hk : isK k) (hn : nF x < 8) : f_L_addPhase (sS x t (eR q)) (nI k) (nI i) (nI v) = some (nI (nF x), sS (appM k i v x) t (eR (withH q (pushH q.2.2.1 x)))) := by
  unfold f_L_addPhase g_X7_addPhase f_X7_addPhase
  rw [show g_X0_judgePhase (sS x t (eR q)).1 (nI k) (nI i) (nI v) = some 0 from hj, Option.bind_some]
  rw [rn (z := 0) (by decide), bE7_inl]
  rw [ra0, bE7_inl]
  rw [show g_X3_push _ _ = _ from c_push hx hq, Option.bind_some, show g_X0_appendPhase (sS x t (eR q)).1 (nI k) (nI i) (nI v) = _ from o_append hk hn, bP_some]
  rfl
theorem d8_removePhase (j : Int32) (hj : g_X0_judgeCut (eB x) j = some 8) : f_L_removePhase (sS x t (eR q)) j = some (-100000000, sS x t (eR q)) := by
  unfold f_L_removePhase g_X7_removePhase f_X7_removePhase
  rw [show g_X0_judgeCut (sS x t (eR q)).1 j = some 8 from hj, Option.bind_some, ri8, bE7_inr]
  rfl
theorem dz_removePhase (j : Int32) {z : Int32} (hj : g_X0_judgeCut (eB x) j = some z) (hz : z ≠ 0) (h8 : z ≠ 8) : ∃ d, f_L_removePhase (sS x t (eR q)) j = some (-100000000, sS x t (eR (den q z d))) := by
  obtain ⟨d, hd⟩ := ra (x := x) (t := t) (q := q) hz (-1)
  refine ⟨d, ?_⟩
  unfold f_L_removePhase g_X7_removePhase f_X7_removePhase
  rw [show g_X0_judgeCut (sS x t (eR q)).1 j = some z from hj, Option.bind_some]
  rw [ri (z := z) h8, bE7_inl]
  rw [hd, bE7_inr]
  rfl
theorem p_removePhase (hx : okB x) (hq : okR q) {j : Nat} (hj : g_X0_judgeCut (eB x) (nI j) = some 0) (hn : j < nF x) : f_L_removePhase (sS x t (eR q)) (nI j) = some (nI (nF x - 1), sS (cutM j x) t (eR (withH q (pushH q.2.2.1 x)))) := by
  unfold f_L_removePhase g_X7_removePhase f_X7_removePhase
  rw [show g_X0_judgeCut (sS x t (eR q)).1 (nI j) = some 0 from hj, Option.bind_some]
  rw [ri (z := 0) (by decide), bE7_inl]
  rw [ra0, bE7_inl]
  rw [show g_X3_push _ _ = _ from c_push hx hq, Option.bind_some, show g_X0_cutPhase (sS x t (eR q)).1 (nI j) = _ from o_cut hx hn, bP_some]
  rfl
theorem dz_start  {z : Int32} (hj : g_X0_judgeStart (eB x) = some z) (hz : z ≠ 0) : ∃ d, f_L_start (sS x t (eR q)) = some (-100000000, sS x t (eR (den q z d))) := by
  obtain ⟨d, hd⟩ := ra (x := x) (t := t) (q := q) hz (-1)
  refine ⟨d, ?_⟩
  unfold f_L_start g_X7_start f_X7_start
  rw [show g_X0_judgeStart (sS x t (eR q)).1 = some z from hj, Option.bind_some]
  rw [hd, bE7_inr]
  rfl
theorem p_start (hx : okB x) (hq : okR q)  (hj : g_X0_judgeStart (eB x) = some 0) (hn : 0 < nF x) : f_L_start (sS x t (eR q)) = some (nI (lf (begM x)), sS (begM x) t (eR (withH q (pushH q.2.2.1 x)))) := by
  unfold f_L_start g_X7_start f_X7_start
  rw [show g_X0_judgeStart (sS x t (eR q)).1 = some 0 from hj, Option.bind_some]
  rw [ra0, bE7_inl]
  rw [show g_X3_push _ _ = _ from c_push hx hq, Option.bind_some, show g_X0_startCycle (sS x t (eR q)).1  = _ from o_start hx hn, bP_some]
  rfl
theorem dz_stop  {z : Int32} (hj : g_X0_judgeStop (eB x) = some z) (hz : z ≠ 0) : ∃ d, f_L_stop (sS x t (eR q)) = some (-100000000, sS x t (eR (den q z d))) := by
  obtain ⟨d, hd⟩ := ra (x := x) (t := t) (q := q) hz (-1)
  refine ⟨d, ?_⟩
  unfold f_L_stop g_X7_stop f_X7_stop
  rw [show g_X0_judgeStop (sS x t (eR q)).1 = some z from hj, Option.bind_some]
  rw [hd, bE7_inr]
  rfl
theorem p_stop (hx : okB x) (hq : okR q)  (hj : g_X0_judgeStop (eB x) = some 0)  : f_L_stop (sS x t (eR q)) = some (nI (lf x), sS (endM x) t (eR (withH q (pushH q.2.2.1 x)))) := by
  unfold f_L_stop g_X7_stop f_X7_stop
  rw [show g_X0_judgeStop (sS x t (eR q)).1 = some 0 from hj, Option.bind_some]
  rw [ra0, bE7_inl]
  rw [show g_X3_push _ _ = _ from c_push hx hq, Option.bind_some, show g_X0_stopCycle (sS x t (eR q)).1  = _ from o_stop hx, bP_some]
  rfl
theorem d8_run (m : Int32) (hj : g_X0_judgeRun (eB x) m = some 8) : f_L_run (sS x t (eR q)) m = some (-100000000, sS x t (eR q)) := by
  unfold f_L_run g_X7_run f_X7_run
  rw [show g_X0_judgeRun (sS x t (eR q)).1 m = some 8 from hj, Option.bind_some, rn8, bE7_inr]
  rfl
theorem p_run (hx : okB x) (hq : okR q) {m : Nat} (hj : g_X0_judgeRun (eB x) (nI m) = some 0) (hm : m ≤ 240) : f_L_run (sS x t (eR q)) (nI m) = some (nI (min (lf x) m), sS (itN m x) t (eR (withH q (pushH q.2.2.1 x)))) := by
  unfold f_L_run g_X7_run f_X7_run
  rw [show g_X0_judgeRun (sS x t (eR q)).1 (nI m) = some 0 from hj, Option.bind_some]
  rw [rn (z := 0) (by decide), bE7_inl]
  rw [show g_X3_push _ _ = _ from c_push hx hq, Option.bind_some, show g_X0_passMinutes (sS x t (eR q)).1 (nI m) = _ from s_pms hx hm, bP_some]
  rfl
theorem d8_load (m : Int32) (hj : g_X0_judgeLoad (eB x) m = some 8) : f_L_load (sS x t (eR q)) m = some (-100000000, sS x t (eR q)) := by
  unfold f_L_load g_X7_load f_X7_load
  rw [show g_X0_judgeLoad (sS x t (eR q)).1 m = some 8 from hj, Option.bind_some, rn8, bE7_inr]
  rfl
theorem dz_load (m : Int32) {z : Int32} (hj : g_X0_judgeLoad (eB x) m = some z) (hz : z ≠ 0) (h8 : z ≠ 8) : ∃ d, f_L_load (sS x t (eR q)) m = some (-100000000, sS x t (eR (den q z d))) := by
  obtain ⟨d, hd⟩ := ra (x := x) (t := t) (q := q) hz 100
  refine ⟨d, ?_⟩
  unfold f_L_load g_X7_load f_X7_load
  rw [show g_X0_judgeLoad (sS x t (eR q)).1 m = some z from hj, Option.bind_some]
  rw [rn (z := z) h8, bE7_inl]
  rw [hd, bE7_inr]
  rfl
theorem p_load (hx : okB x) (hq : okR q) {m : Nat} (hj : g_X0_judgeLoad (eB x) (nI m) = some 0) (h1 : 1 ≤ m) (h2 : x.2.1.1 + m ≤ 100) : f_L_load (sS x t (eR q)) (nI m) = some (nI (tmp (loadM m x)), sS (loadM m x) t (eR (withH q (pushH q.2.2.1 x)))) := by
  unfold f_L_load g_X7_load f_X7_load
  rw [show g_X0_judgeLoad (sS x t (eR q)).1 (nI m) = some 0 from hj, Option.bind_some]
  rw [rn (z := 0) (by decide), bE7_inl]
  rw [ra0, bE7_inl]
  rw [show g_X3_push _ _ = _ from c_push hx hq, Option.bind_some, show g_X0_loadRock (sS x t (eR q)).1 (nI m) = _ from o_load hx h1 h2, bP_some]
  rfl
theorem d8_press (m : Int32) (hj : g_X0_judgePress (eB x) m = some 8) : f_L_press (sS x t (eR q)) m = some (-100000000, sS x t (eR q)) := by
  unfold f_L_press g_X7_press f_X7_press
  rw [show g_X0_judgePress (sS x t (eR q)).1 m = some 8 from hj, Option.bind_some, rn8, bE7_inr]
  rfl
theorem dz_press (m : Int32) {z : Int32} (hj : g_X0_judgePress (eB x) m = some z) (hz : z ≠ 0) (h8 : z ≠ 8) : ∃ d, f_L_press (sS x t (eR q)) m = some (-100000000, sS x t (eR (den q z d))) := by
  obtain ⟨d, hd⟩ := ra (x := x) (t := t) (q := q) hz 12
  refine ⟨d, ?_⟩
  unfold f_L_press g_X7_press f_X7_press
  rw [show g_X0_judgePress (sS x t (eR q)).1 m = some z from hj, Option.bind_some]
  rw [rn (z := z) h8, bE7_inl]
  rw [hd, bE7_inr]
  rfl
theorem p_press (hx : okB x) (hq : okR q) {m : Nat} (hj : g_X0_judgePress (eB x) (nI m) = some 0) (h1 : m ≤ x.2.1.1) (h2 : nQ x < 12) : f_L_press (sS x t (eR q)) (nI m) = some (nI (nQ x), sS (prsM m x) t (eR (withH q (pushH q.2.2.1 x)))) := by
  unfold f_L_press g_X7_press f_X7_press
  rw [show g_X0_judgePress (sS x t (eR q)).1 (nI m) = some 0 from hj, Option.bind_some]
  rw [rn (z := 0) (by decide), bE7_inl]
  rw [ra0, bE7_inl]
  rw [show g_X3_push _ _ = _ from c_push hx hq, Option.bind_some, show g_X0_pressPat (sS x t (eR q)).1 (nI m) = _ from o_press hx h1 h2, bP_some]
  rfl
theorem d8_gradePat (j : Int32) (hj : g_X0_judgeGrading (eB x) j = some 8) : f_L_gradePat (sS x t (eR q)) j = some (-100000000, sS x t (eR q)) := by
  unfold f_L_gradePat g_X7_gradePat f_X7_gradePat
  rw [show g_X0_judgeGrading (sS x t (eR q)).1 j = some 8 from hj, Option.bind_some, ri8, bE7_inr]
  rfl
theorem dz_gradePat (j : Int32) {z : Int32} (hj : g_X0_judgeGrading (eB x) j = some z) (hz : z ≠ 0) (h8 : z ≠ 8) {r7 : Int32} (h7 : g_X4_temperatureOf (sS x t (eR q)).1.2.2.1 j = some r7) : ∃ d, f_L_gradePat (sS x t (eR q)) j = some (-100000000, sS x t (eR (den q z d))) := by
  obtain ⟨d, hd⟩ := ra (x := x) (t := t) (q := q) hz r7
  refine ⟨d, ?_⟩
  unfold f_L_gradePat g_X7_gradePat f_X7_gradePat
  rw [show g_X0_judgeGrading (sS x t (eR q)).1 j = some z from hj, Option.bind_some]
  rw [ri (z := z) h8, bE7_inl]
  rw [h7, Option.bind_some]
  rw [hd, bE7_inr]
  rfl
theorem p_gradePat (hx : okB x) (hq : okR q) {j : Nat} (hj : g_X0_judgeGrading (eB x) (nI j) = some 0) (hn : j < nQ x) {r7 : Int32} (h7 : g_X4_temperatureOf (sS x t (eR q)).1.2.2.1 (nI j) = some r7) : f_L_gradePat (sS x t (eR q)) (nI j) = some (nI (97 + grdP x j), sS (grdM j x) t (eR (withH q (pushH q.2.2.1 x)))) := by
  unfold f_L_gradePat g_X7_gradePat f_X7_gradePat
  rw [show g_X0_judgeGrading (sS x t (eR q)).1 (nI j) = some 0 from hj, Option.bind_some]
  rw [ri (z := 0) (by decide), bE7_inl]
  rw [h7, Option.bind_some]
  rw [ra0, bE7_inl]
  rw [show g_X3_push _ _ = _ from c_push hx hq, Option.bind_some, show g_X0_takeGrade (sS x t (eR q)).1 (nI j) = _ from o_grade hx hn, bP_some, if_neg (Decidable.not_not.mpr ⟨nI_pos' (by have := grdP_lt (x := x) j; omega), nI_le (b := 65535) (by have := grdP_lt (x := x) j; omega) (by omega)⟩)]
  rfl
theorem d8_crush (j : Int32) (hj : g_X0_judgeCrush (eB x) j = some 8) : f_L_crush (sS x t (eR q)) j = some (-100000000, sS x t (eR q)) := by
  unfold f_L_crush g_X7_crush f_X7_crush
  rw [show g_X0_judgeCrush (sS x t (eR q)).1 j = some 8 from hj, Option.bind_some, ri8, bE7_inr]
  rfl
theorem dz_crush (j : Int32) {z : Int32} (hj : g_X0_judgeCrush (eB x) j = some z) (hz : z ≠ 0) (h8 : z ≠ 8) : ∃ d, f_L_crush (sS x t (eR q)) j = some (-100000000, sS x t (eR (den q z d))) := by
  obtain ⟨d, hd⟩ := ra (x := x) (t := t) (q := q) hz 100
  refine ⟨d, ?_⟩
  unfold f_L_crush g_X7_crush f_X7_crush
  rw [show g_X0_judgeCrush (sS x t (eR q)).1 j = some z from hj, Option.bind_some]
  rw [ri (z := z) h8, bE7_inl]
  rw [hd, bE7_inr]
  rfl
theorem p_crush (hx : okB x) (hq : okR q) {j : Nat} (hj : g_X0_judgeCrush (eB x) (nI j) = some 0) (hn : j < nQ x) (h1 : x.2.1.1 + x.2.2.1.1 j ≤ 100) : f_L_crush (sS x t (eR q)) (nI j) = some (nI (x.2.1.1 + x.2.2.1.1 j), sS (crsM j x) t (eR (withH q (pushH q.2.2.1 x)))) := by
  unfold f_L_crush g_X7_crush f_X7_crush
  rw [show g_X0_judgeCrush (sS x t (eR q)).1 (nI j) = some 0 from hj, Option.bind_some]
  rw [ri (z := 0) (by decide), bE7_inl]
  rw [ra0, bE7_inl]
  rw [show g_X3_push _ _ = _ from c_push hx hq, Option.bind_some, show g_X0_crushPat (sS x t (eR q)).1 (nI j) = _ from o_crush hx hn h1, bP_some]
  rfl
theorem t_any (hx : okB x) (j : Int32) : ∃ r7, g_X4_temperatureOf (sS x t (eR q)).1.2.2.1 j = some r7 := by
  have hc : nQ x ≤ 12 := hx.2.2.1.1
  show ∃ r7, f_X4_temperatureOf (eF x.2.2.1.1) (eF x.2.2.1.2.1) (eF x.2.2.1.2.2.1) (eF x.2.2.1.2.2.2.1) (nI (nQ x)) j = some r7
  unfold f_X4_temperatureOf
  rcases hasT_any (M := eF x.2.2.1.1) (T := eF x.2.2.1.2.1) (S := eF x.2.2.1.2.2.1) (C := eF x.2.2.1.2.2.2.1) hc j with h | ⟨i, hi, rfl, h⟩
  · rw [h, Option.bind_some, if_pos rfl]
    exact ⟨_, rfl⟩
  · rw [h, Option.bind_some, if_neg (by decide), if_neg (nI_in (by omega) (by omega))]
    exact ⟨_, rfl⟩
theorem c_undo0 (h0 : q.2.2.1.2.1 = 0) : f_L_undo (sS x t (eR q)) = some (-100000000, sS x t (eR q)) := by
  unfold f_L_undo g_X7_undo f_X7_undo
  rw [if_pos (show (sS x t (eR q)).2.2.2.2.1.2.1 = 0 by show nI q.2.2.1.2.1 = 0; rw [h0]; rfl)]
  rfl
theorem c_undo (hq : okR q) (hk : 0 < q.2.2.1.2.1) : f_L_undo (sS x t (eR q)) = some (nI (q.2.2.1.2.1 - 1), sS (q.2.2.1.2.2 ((q.2.2.1.1 + 7) % 8)) t (eR (withH q (popH q.2.2.1)))) := by
  have h8 := hq.2.1.2.1
  unfold f_L_undo g_X7_undo f_X7_undo
  rw [if_neg (show ¬ (sS x t (eR q)).2.2.2.2.1.2.1 = 0 from nI_ne0 hk (by omega)), show g_X3_pop (sS x t (eR q)).2.2.2.2.1 (sS x t (eR q)).1 = _ from s_pop hq.2.1 hk _, bP_some]
  rfl
theorem okR_pop (hq : okR q) : okR (withH q (popH q.2.2.1)) := ⟨hq.1, popH_ok hq.2.1, hq.2.2⟩
end OP
