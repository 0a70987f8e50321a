/-! execute is total, with its answers -/
def denC (q : RM) (z d c : Int32) : RM := (q.1, q.2.1, q.2.2.1, q.2.2.2.1, q.2.2.2.2.1, z, d, c)
def endS (x t : MB) (q : RM) (cc : Nat) (o : Option ((Int32 ⊕ String) × SX7)) : Prop := (∃ t2 d z, okB t2 ∧ isV z ∧ o = some (.inr "java/lang/UnsupportedOperationException", sS x t2 (eR (denC q 7 d z)))) ∨ (∃ t2, okB t2 ∧ o = some (.inl (nI cc), sS t2 t2 (eR (withH q (pushH q.2.2.1 x)))))
section EY
variable {x t : MB} {q : RM}
theorem c_54 (hx : okB x) (hq : okR q) {cc : Nat} (hc : (sS x t (eR q)).2.2.2.2.2.1.2.2.2.2.2.2.2 = nI cc) (hcc : cc ≤ 13) : ∀ (fu i : Nat) (t : MB), okB t → cc < fu + i → i ≤ cc → endS x t q cc (f_X7_execute_54 fu (nI i) (sS x t (eR q)).1 (sS x t (eR q)).2.1 (sS x t (eR q)).2.2.1 (sS x t (eR q)).2.2.2.1 (sS x t (eR q)).2.2.2.2.1 (sS x t (eR q)).2.2.2.2.2.1 (sS x t (eR q)).2.2.2.2.2.2.1 (sS x t (eR q)).2.2.2.2.2.2.2.1 (sS x t (eR q)).2.2.2.2.2.2.2.2.1 (sS x t (eR q)).2.2.2.2.2.2.2.2.2) := by
  intro fu
  induction fu with
  | zero => intro i t _ h1 h2; omega
  | succ fu ih =>
    intro i t ht h1 h2
    have hc' : (sS x t (eR q)).2.2.2.2.2.1.2.2.2.2.2.2.2 = nI cc := hc
    rw [f_X7_execute_54, hc']
    by_cases h : cc ≤ i
    · refine Or.inr ⟨t, ht, ?_⟩
      rw [if_pos (nI_le h (by omega)), c_push hx hq, Option.bind_some, show g_X0_copyFrom (sS x t (eR q)).1 (sS x t (eR q)).2.1 = some (eB t) from s_copy ht, Option.bind_some]
      rfl
    · rw [if_neg (nI_ge (by omega) (by omega))]
      rcases c_cmd (x := x) (q := q) ht (i := i) (by omega) with ⟨z, hz, hv | ⟨rfl, t2, ht2, h2'⟩⟩
      · rw [hz, Option.bind_some, if_neg (isV_ne hv)]
        exact Or.inl ⟨t, nI i, z, ht, hv, rfl⟩
      · rw [hz, Option.bind_some, if_pos rfl, h2', nI_1]
        exact ih (i + 1) t2 ht2 (by omega) (by omega)
theorem okR_x (hq : okR q) (z : SX6) : okR (withX q (z.1, 0, z.2.2)) := ⟨hq.1, hq.2.1, rfl⟩
/-- a text of the law is executed: done whole, or denied with nothing changed -/
theorem c_execute (hx : okB x) (hq : okR q) {i : Nat} (hi : i < 63) (h36 : 36 ≤ i) : ∃ t1 q1, okB t1 ∧ okR q1 ∧ q1.1 = q.1 ∧ q1.2.1 = q.2.1 ∧ ((f_L_execute (sS x t (eR (withX q (wrX q.2.2.2.1 i (sx i).length)))) = some (-100000000, sS x t1 (eR q1)) ∧ q1.2.2.2.2.2.1 = 7 ∧ isV q1.2.2.2.2.2.2.2) ∨ (∃ k, k ≤ 13 ∧ f_L_execute (sS x t (eR (withX q (wrX q.2.2.2.1 i (sx i).length)))) = some (nI k, sS t1 t1 (eR q1)) ∧ topH q1.2.2.1 x)) := by
  obtain ⟨z1, cc, hcc, hr, hz1⟩ := rd_text hi h36 q.2.2.2.1
  have hq1 := okR_x hq z1
  have e0 := c_54 (t := x) (q := withX q (z1.1, 0, z1.2.2)) hx hq1 (cc := cc) hz1 hcc 300 0 x hx (by omega) (Nat.zero_le _)
  have e1 : g_X7_execute (sS x t (eR (withX q (wrX q.2.2.2.1 i (sx i).length)))) = f_X7_execute_54 300 0 (eB x) (eB x) (eB q.1) q.2.1 (eHst q.2.2.1) (z1.1, 0, z1.2.2) q.2.2.2.2.1 q.2.2.2.2.2.1 q.2.2.2.2.2.2.1 q.2.2.2.2.2.2.2 := by
    unfold g_X7_execute f_X7_execute
    rw [show g_X6_readCommands (sS x t (eR (withX q (wrX q.2.2.2.1 i (sx i).length)))).2.2.2.2.2.1 = _ from hr, bP_some, show g_X6_clear z1 = some (z1.1, 0, z1.2.2) from rfl, Option.bind_some, if_neg (by decide), show g_X0_copyFrom (sS x t (eR (withX q (wrX q.2.2.2.1 i (sx i).length)))).2.1 (sS x t (eR (withX q (wrX q.2.2.2.1 i (sx i).length)))).1 = some (eB x) from s_copy hx, Option.bind_some]
    rfl
  unfold f_L_execute
  rw [e1]
  rcases e0 with ⟨t2, d, z, h2, hv, e⟩ | ⟨t2, h2, e⟩
  · refine ⟨t2, denC (withX q (z1.1, 0, z1.2.2)) 7 d z, h2, hq1, rfl, rfl, Or.inl ⟨?_, rfl, hv⟩⟩
    rw [show f_X7_execute_54 300 0 (eB x) (eB x) (eB q.1) q.2.1 (eHst q.2.2.1) (z1.1, 0, z1.2.2) q.2.2.2.2.1 q.2.2.2.2.2.1 q.2.2.2.2.2.2.1 q.2.2.2.2.2.2.2 = _ from e, Option.bind_some]
    show (if "java/lang/UnsupportedOperationException" = "java/lang/IllegalArgumentException" then _ else if "java/lang/UnsupportedOperationException" = "java/lang/UnsupportedOperationException" then _ else _) = _
    rw [if_neg (by decide), if_pos rfl]
  · refine ⟨t2, withH (withX q (z1.1, 0, z1.2.2)) (pushH q.2.2.1 x), h2, okR_push hx hq1, rfl, rfl, Or.inr ⟨cc, hcc, ?_, top_push hq.2.1 x⟩⟩
    rw [show f_X7_execute_54 300 0 (eB x) (eB x) (eB q.1) q.2.1 (eHst q.2.2.1) (z1.1, 0, z1.2.2) q.2.2.2.2.1 q.2.2.2.2.2.1 q.2.2.2.2.2.2.1 q.2.2.2.2.2.2.2 = _ from e, Option.bind_some]
    rfl
theorem c_exec0 (hq : okR q) : ∃ q1, okR q1 ∧ q1.1 = q.1 ∧ q1.2.1 = q.2.1 ∧ f_L_execute (sS x t (eR q)) = some (-100000000, sS x t (eR q1)) := by
  obtain ⟨z1, hr⟩ := rd_none q.2.2.2.1 hq.2.2
  refine ⟨(q.1, q.2.1, q.2.2.1, (z1.1, 0, z1.2.2), z1.2.2.1, q.2.2.2.2.2.1, q.2.2.2.2.2.2.1, q.2.2.2.2.2.2.2), ⟨hq.1, hq.2.1, rfl⟩, rfl, rfl, ?_⟩
  unfold f_L_execute g_X7_execute f_X7_execute
  rw [show g_X6_readCommands (sS x t (eR q)).2.2.2.2.2.1 = _ from hr, bP_some, show g_X6_clear z1 = some (z1.1, 0, z1.2.2) from rfl, Option.bind_some, if_pos rfl, Option.bind_some]
  show (if "java/lang/IllegalArgumentException" = "java/lang/IllegalArgumentException" then _ else _) = _
  rw [if_pos rfl]
  rfl
theorem r_den7 (h : q.2.2.2.2.2.1 = 7) : f_L_denial (sS x t (eR q)) = some (7, sS x t (eR q)) := by
  unfold f_L_denial g_X7_denial f_X7_denial f_X7_requireDenial
  have h' : (sS x t (eR q)).2.2.2.2.2.2.2.1 = 7 := h
  rw [if_neg (show ¬ (sS x t (eR q)).2.2.2.2.2.2.2.1 = 0 by rw [h']; decide)]
  show some ((sS x t (eR q)).2.2.2.2.2.2.2.1, sS x t (eR q)) = _
  rw [h']
theorem r_cause (h : isV q.2.2.2.2.2.2.2) : f_L_denialCause (sS x t (eR q)) = some (q.2.2.2.2.2.2.2, sS x t (eR q)) := by
  unfold f_L_denialCause g_X7_denialCause f_X7_denialCause
  rw [if_neg (show ¬ (sS x t (eR q)).2.2.2.2.2.2.2.2.2 = 0 from isV_ne h)]
  rfl
def savQ (q : RM) (x : MB) : RM := (x, 1, q.2.2)
theorem okR_sav (hx : okB x) (hq : okR q) : okR (savQ q x) := ⟨hx, hq.2⟩
theorem c_save (hx : okB x) : g_X7_saveSnapshot (sS x t (eR q)) = some (nI (nQ x), sS x t (eR (savQ q x))) := by
  unfold g_X7_saveSnapshot f_X7_saveSnapshot
  rw [show g_X0_copyFrom (sS x t (eR q)).2.2.1 (sS x t (eR q)).1 = some (eB x) from s_copy hx, Option.bind_some]
  rfl
def clrQ (q : RM) : RM := withH q (q.2.2.1.1, 0, q.2.2.1.2.2)
theorem okR_clr (hq : okR q) : okR (clrQ q) := ⟨hq.1, ⟨hq.2.1.1, Nat.zero_le _, hq.2.1.2.2⟩, hq.2.2⟩
theorem c_restore (hq : okR q) (h : q.2.1 ≠ 0) : f_L_restore (sS x t (eR q)) = some (nI (nQ q.1), sS q.1 t (eR (clrQ q))) := by
  unfold f_L_restore g_X7_restoreSnapshot f_X7_restoreSnapshot
  rw [if_neg (show ¬ (sS x t (eR q)).2.2.2.1 = 0 from h), show g_X0_copyFrom (sS x t (eR q)).1 (sS x t (eR q)).2.2.1 = some (eB q.1) from s_copy hq.1, Option.bind_some, show g_X3_forgetAll (sS x t (eR q)).2.2.2.2.1 = some (eHst (q.2.2.1.1, 0, q.2.2.1.2.2)) from rfl, Option.bind_some, Option.bind_some]
  rfl
theorem c_restore0 (h : q.2.1 = 0) : f_L_restore (sS x t (eR q)) = some (-100000000, sS x t (eR q)) := by
  unfold f_L_restore g_X7_restoreSnapshot f_X7_restoreSnapshot
  rw [if_pos (show (sS x t (eR q)).2.2.2.1 = 0 from h), Option.bind_some]
  show (if "java/lang/IllegalStateException" = "java/lang/IllegalStateException" then _ else _) = _
  rw [if_pos rfl]
end EY
