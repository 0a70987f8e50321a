/-! act is total: whatever is denied changes nothing -/
def opG (x : MB) (o : Option (Int32 × SX7)) : Prop := ∃ v x1 t1 q1, o = some (v, sS x1 t1 (eR q1)) ∧ okB x1 ∧ okB t1 ∧ okR q1 ∧ (v = -100000000 → x1 = x)
section AC
variable {x t : MB} {q : RM}
theorem opS_G {o : Option (Int32 × SX7)} (h : opS x t q o) : opG x (bS o fun r S => some (r, S)) := by
  obtain ⟨v, x1, t1, q1, e, h1, h2, h3, -, -, h6⟩ := h
  exact ⟨v, x1, t1, q1, by rw [e, bS_some], h1, h2, h3, h6⟩
theorem opG_G {o : Option (Int32 × SX7)} (h : opG x o) : opG x (bS o fun r S => some (r, S)) := by
  obtain ⟨v, x1, t1, q1, e, h1, h2, h3, h6⟩ := h
  exact ⟨v, x1, t1, q1, by rw [e, bS_some], h1, h2, h3, h6⟩
theorem opG_ite {c : Prop} [Decidable c] {a b : Option (Int32 × SX7)} (ha : opG x a) (hb : opG x b) : opG x (if c then a else b) := by
  split
  · exact ha
  · exact hb
theorem sx_18 : (sx 18).length = 5 := by decide +kernel
theorem sx_34 : (sx 34).length = 4 := by decide +kernel
theorem sx_35 : (sx 35).length = 3 := by decide +kernel
theorem tx_36 : ∀ j, j < 27 → 36 ≤ TXS.getD j 0 := by decide +kernel
theorem a_88 (hx : okB x) (ht : okB t) (hq : okR q) (p1 : Int32) {n : Nat} (hn : n < 65536) : opG x (f_L_act_88 p1 (sS x t (eR q)) (nI n)) := by
  have h5 : n % 5 < 5 := Nat.mod_lt _ (by omega)
  have e : nI n - nI n / 5 * 5 = nI (n % 5) := pk_rem (d := 5) (by omega) (by omega) (by omega)
  unfold f_L_act_88
  rw [if_neg (by decide), e, sx_18, if_neg (nI_in h5 (by omega))]
  exact opS_G (g_addPhase hx ht hq _ _ _)
theorem a_191 (hx : okB x) (ht : okB t) (hq : okR q) (p1 : Int32) {n : Nat} (hn : n < 65536) : opG x (f_L_act_191 p1 (sS x t (eR q)) (nI n)) := by
  have h5 : n % 27 < 27 := Nat.mod_lt _ (by omega)
  have e : nI n - nI n / 27 * 27 = nI (n % 27) := pk_rem (d := 27) (by omega) (by omega) (by omega)
  have hi := tx_lt _ h5
  have h36 := tx_36 _ h5
  unfold f_L_act_191
  rw [e, if_neg (nI_in h5 (by omega)), nI_clamp (by omega), c_write hi h36 hq, Option.bind_some]
  obtain ⟨t1, q1, h1, h2, -, -, ⟨e1, -⟩ | ⟨k, hk, e1, -⟩⟩ := c_execute (t := t) hx hq hi h36
  · exact opG_G ⟨_, x, t1, q1, e1, hx, h1, h2, fun _ => rfl⟩
  · exact opG_G ⟨_, t1, t1, q1, e1, h1, h1, h2, fun h => absurd h (nI_den (by omega))⟩
theorem a_act (hx : okB x) (ht : okB t) (hq : okR q) (p1 : Int32) : opG x (f_L_act (sS x t (eR q)) p1) := by
  obtain ⟨n, hn, e⟩ := pk_andE (p1 >>> ((4 : Int32) &&& 31)) (m := 65535) 16 rfl
  have hn2 : n < 65536 := hn
  unfold f_L_act
  rw [e]
  refine opG_ite (a_88 hx ht hq p1 hn2) (opG_ite (a_88 hx ht hq p1 hn2) (opG_ite (opG_ite (opS_G (g_removePhase hx ht hq _)) (opS_G (g_stop hx ht hq))) ?_))
  refine opG_ite (opS_G (g_load hx ht hq _)) (opG_ite (opS_G (g_load hx ht hq _)) (opG_ite (opS_G (g_start hx ht hq)) (opG_ite (opS_G (g_start hx ht hq)) ?_)))
  refine opG_ite (opS_G (g_run hx ht hq _)) (opG_ite (opS_G (g_run hx ht hq _)) (opG_ite (opS_G (g_press hx ht hq _)) (opG_ite (opS_G (g_press hx ht hq _)) ?_)))
  refine opG_ite (opG_ite (opS_G (g_gradePat hx ht hq _)) (opS_G (g_crush hx ht hq _))) ?_
  refine opG_ite (a_191 hx ht hq p1 hn2) (opG_ite (a_191 hx ht hq p1 hn2) (opG_ite (a_191 hx ht hq p1 hn2) ?_))
  refine opG_ite (opG_G ⟨_, x, t, _, c_save hx, hx, ht, okR_sav hx hq, fun _ => rfl⟩) (opG_ite ?_ (opS_G (g_undo hx ht hq)))
  by_cases h : q.2.1 = 0
  · exact opG_G ⟨_, x, t, q, c_restore0 h, hx, ht, hq, fun _ => rfl⟩
  · have h12 : nQ q.1 ≤ 12 := hq.1.2.2.1.1
    exact opG_G ⟨_, q.1, t, _, c_restore hq h, hq.1, ht, okR_clr hq, fun h => absurd h (nI_den (by omega))⟩
theorem c_cell {L : Nat} {xs : Nat → Int32} (hL : L ≤ 260) (p : Int32) : ∃ v, f_L_cell L xs p = some v := by
  unfold f_L_cell
  by_cases h : L = 0
  · subst h
    exact ⟨_, if_pos rfl⟩
  · obtain ⟨n, hn, e⟩ := pk_andE p (m := 65535) 16 rfl
    have hn2 : n < 65536 := hn
    have e2 : nI n - nI n / Int32.ofNat L * Int32.ofNat L = nI (n % L) := pk_rem (d := L) (by omega) (by omega) (by omega)
    rw [if_neg (show ¬ Int32.ofNat L = 0 from nI_ne0 (by omega) (by omega)), e, e2, if_neg (nI_in (Nat.mod_lt _ (by omega)) (by omega))]
    exact ⟨_, rfl⟩
end AC
