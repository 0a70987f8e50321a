/-! the law answers true -/
section LW
variable {L : Nat} {xs : Nat → Int32}
theorem t_353 {x t : MB} {q : RM} (hq : okR q) (h1 : q.2.1 = 1) : f_L_law_353 L xs (sS x t (eR q)) 1 (dgx q.1) (nI (nQ q.1)) = some 1 := by
  unfold f_L_law_353
  rw [if_neg (by decide), c_restore hq (by rw [h1]; decide), bS_some, if_pos rfl, r_digest hq.1, bS_some, lg0, if_pos rfl, c_undo0 rfl, bS_some, if_pos rfl]
  rw [show g_X7_undoCount (sS q.1 (itN (lf q.1) q.1) (eR (clrQ q))) = some 0 from rfl, Option.bind_some, if_pos rfl]
theorem t_281 {s0 : MB} : ∀ (fu i : Nat) (x t : MB) (q : RM), okB x → okB t → okR q → q.1 = s0 → q.2.1 = 1 → 3 < fu + i → i ≤ 3 → f_L_law_281 L xs fu (sS x t (eR q)) 1 (dgx s0) (nI (nQ s0)) (nI i) = some 1 := by
  intro fu
  induction fu with
  | zero => intro i x t q _ _ _ _ _ h1 h2; omega
  | succ fu ih =>
    intro i x t q hx ht hq e0 e1 h1 h2
    rw [f_L_law_281, if_neg (by decide)]
    by_cases h : 3 ≤ i
    · rw [if_pos (show 3 ≤ nI i from nI_le (a := 3) h (by omega)), ← e0]
      exact t_353 hq e1
    · obtain ⟨v1, x1, t1, q1, a1, a2, a3, a4, a5, a6, -⟩ := g_load hx ht hq 9
      obtain ⟨v2, x2, t2, q2, b1, b2, b3, b4, b5, b6, -⟩ := g_stop a2 a3 a4
      obtain ⟨v3, x3, t3, q3, c1, c2, c3, c4, c5, c6, -⟩ := g_addPhase b2 b3 b4 ((sx 35).getD i 0 &&& 255) 12 (4 + (nI i - nI i / 2 * 2))
      obtain ⟨v4, x4, t4, q4, d1, d2, d3, d4, d5, d6, -⟩ := g_start c2 c3 c4
      obtain ⟨v5, x5, t5, q5, f1, f2, f3, f4, f5, f6, -⟩ := g_run d2 d3 d4 20
      obtain ⟨v6, x6, t6, q6, i1, i2, i3, i4, i5, i6, -⟩ := g_press f2 f3 f4 4
      obtain ⟨t7, q7, k1, k2, k3, k4, k5⟩ := p_isFit i2 i3 i4
      rw [if_neg (show ¬ 3 ≤ nI i from nI_ge (b := 3) (by omega) (by omega)), a1, bS_some, b1, bS_some, if_neg (by decide), sx_35, if_neg (nI_in (by omega) (by omega)), nI_clamp (by omega), c1, bS_some, d1, bS_some, f1, bS_some, i1, bS_some, k5, bS_some, nI_1]
      exact ih (i + 1) x6 t7 q7 i2 k1 k2 (by rw [k3, i5, f5, d5, c5, b5, a5, e0]) (by rw [k4, i6, f6, d6, c6, b6, a6, e1]) (by omega) (by omega)
theorem t_188 {x : MB} (hx : okB x) : ∀ (fu i : Nat) (t : MB) (q : RM), okB t → okR q → q.1 = x → q.2.1 = 1 → 27 < fu + i → i ≤ 27 → f_L_law_188 L xs fu (sS x t (eR q)) 1 (dgx x) (nI (nQ x)) (nI i) = some 1 := by
  intro fu
  induction fu with
  | zero => intro i t q _ _ _ _ h1 h2; omega
  | succ fu ih =>
    intro i t q ht hq e0 e1 h1 h2
    rw [f_L_law_188, if_neg (by decide)]
    by_cases h : 27 ≤ i
    · rw [if_pos (show 27 ≤ nI i from nI_le (a := 27) h (by omega))]
      exact t_281 4 0 x t q hx ht hq e0 e1 (by omega) (by omega)
    · have hi := tx_lt i (by omega)
      have h36 := tx_36 i (by omega)
      rw [if_neg (show ¬ 27 ≤ nI i from nI_ge (b := 27) (by omega) (by omega)), if_neg (nI_in (by omega) (by omega)), nI_clamp (by omega), c_write hi h36 hq, Option.bind_some, nI_1]
      obtain ⟨t1, q1, a1, a2, a3, a4, ⟨a5, a6, a7⟩ | ⟨k, hk, a5, a6⟩⟩ := c_execute (t := t) hx hq hi h36
      · rw [a5, bS_some, if_pos rfl, r_den7 a6, bS_some, if_pos rfl, r_cause a7, bS_some, if_neg (isV_pos a7), r_digest hx, bS_some, lg0, if_pos rfl]
        exact ih (i + 1) _ q1 (itN_ok _ hx) a2 (by rw [a3, e0]) (by rw [a4, e1]) (by omega) (by omega)
      · obtain ⟨t2, b1, b2⟩ := p_arePats a1 (t := t1) (r := eR q1) a1
        obtain ⟨k2, hk2, c1⟩ := u_top (x := t1) (t := t2) a2 a6
        rw [a5, bS_some, if_neg (nI_den (by omega)), b2, bS_some, if_neg (by decide), c1, bS_some, if_neg (nI_pos (by omega)), r_digest hx, bS_some, lg0, if_pos rfl]
        exact ih (i + 1) _ (withH q1 (popH q1.2.2.1)) (itN_ok _ hx) (okR_pop a2) (by show q1.1 = x; rw [a3, e0]) (by show q1.2.1 = 1; rw [a4, e1]) (by omega) (by omega)
theorem t_120 (hL : L ≤ 260) {M : Nat} (hM : M ≤ 36) : ∀ (fu i : Nat) (x t : MB) (q : RM), okB x → okB t → okR q → M < fu + i → i ≤ M → f_L_law_120 L xs fu (sS x t (eR q)) (nI M) (nI i) = some 1 := by
  intro fu
  induction fu with
  | zero => intro i x t q _ _ _ h1 h2; omega
  | succ fu ih =>
    intro i x t q hx ht hq h1 h2
    rw [f_L_law_120]
    by_cases h : M ≤ i
    · obtain ⟨t1, q1, a1, a2, -, -, a5⟩ := p_isFit hx ht hq
      obtain ⟨q2, b1, -, -, b4⟩ := c_exec0 (x := x) (t := t1) a2
      rw [if_pos (nI_le h (by omega)), a5, bS_some, b4, bS_some, r_digest hx, bS_some, c_save hx, bS_some]
      exact t_188 hx 28 0 _ (savQ q2 x) (itN_ok _ hx) (okR_sav hx b1) rfl rfl (by omega) (by omega)
    · obtain ⟨v, hv⟩ := c_cell (xs := xs) hL (nI i)
      obtain ⟨w, x1, t1, q1, a1, a2, a3, a4, a5⟩ := a_act (t := itN (lf x) x) hx (itN_ok _ hx) hq v
      rw [if_neg (nI_ge (by omega) (by omega)), r_digest hx, bS_some, hv, Option.bind_some, a1, bS_some, nI_1]
      by_cases hw : w = -100000000
      · have e := a5 hw
        subst e
        rw [if_pos hw, r_digest hx, bS_some, lg0, if_pos rfl]
        exact ih (i + 1) _ _ q1 hx (itN_ok _ hx) a4 (by omega) (by omega)
      · rw [if_neg hw]
        exact ih (i + 1) _ _ q1 a2 a3 a4 (by omega) (by omega)
theorem t_10 (hL : L ≤ 260) : ∀ (fu i : Nat) (x t : MB) (q : RM), okB x → okB t → okR q → 4 < fu + i → i ≤ 4 → f_L_law_10 L xs fu (sS x t (eR q)) (nI i) = some 1 := by
  intro fu
  induction fu with
  | zero => intro i x t q _ _ _ h1 h2; omega
  | succ fu ih =>
    intro i x t q hx ht hq h1 h2
    rw [f_L_law_10]
    by_cases h : 4 ≤ i
    · obtain ⟨u1, hu1⟩ := c_cell (xs := xs) hL 1
      obtain ⟨u2, hu2⟩ := c_cell (xs := xs) hL 2
      obtain ⟨v1, x1, t1, q1, a1, a2, a3, a4, -⟩ := g_load hx ht hq (30 + ((u1 >>> ((3 : Int32) &&& 31)) &&& (63 : Int32)))
      obtain ⟨v2, x2, t2, q2, b1, b2, b3, b4, -⟩ := g_start a2 a3 a4
      obtain ⟨v3, x3, t3, q3, c1, c2, c3, c4, -⟩ := g_run b2 b3 b4 (1 + ((u2 >>> ((5 : Int32) &&& 31)) &&& (15 : Int32)))
      obtain ⟨v4, x4, t4, q4, d1, d2, d3, d4, -⟩ := g_press c2 c3 c4 5
      rw [if_pos (show 4 ≤ nI i from nI_le (a := 4) h (by omega)), hu1, Option.bind_some, a1, bS_some, b1, bS_some, hu2, Option.bind_some, c1, bS_some, d1, bS_some]
      by_cases hl : 36 ≤ L
      · rw [if_pos (show 36 ≤ Int32.ofNat L from nI_le (a := 36) hl (by omega))]
        exact t_120 hL (M := 36) (by omega) 37 0 x4 t4 q4 d2 d3 d4 (by omega) (by omega)
      · rw [if_neg (show ¬ 36 ≤ Int32.ofNat L from nI_ge (b := 36) (by omega) (by omega))]
        exact t_120 hL (M := L) (by omega) 37 0 x4 t4 q4 d2 d3 d4 (by omega) (by omega)
    · obtain ⟨u1, hu1⟩ := c_cell (xs := xs) hL (nI i)
      obtain ⟨v1, x1, t1, q1, a1, a2, a3, a4, -⟩ := g_addPhase hx ht hq ((sx 34).getD i 0 &&& 255) (1 + ((u1 >>> ((4 : Int32) &&& 31)) &&& (15 : Int32))) (1 + ((u1 >>> ((6 : Int32) &&& 31)) &&& (3 : Int32)))
      rw [if_neg (show ¬ 4 ≤ nI i from nI_ge (b := 4) (by omega) (by omega)), if_neg (by decide), sx_34, if_neg (nI_in (by omega) (by omega)), nI_clamp (by omega), hu1, Option.bind_some, Option.bind_some, a1, bS_some, nI_1]
      exact ih (i + 1) x1 t1 q1 a2 a3 a4 (by omega) (by omega)
def nz : NN := fun _ => 0
def b00 : MB := ((nz, nz, nz, 0, 0, 0, 0), (0, 20, 0, 0), (nz, nz, nz, nz, 0), (z0, 0, 0, 0))
def r00 : RM := (b00, 0, (0, 0, fun _ => b00), (z0, 0, 0, z0, z0, z0, z0, 0), -1, 0, 0, 0)
theorem b00_ok : okB b00 := ⟨⟨Nat.zero_le _, fun _ => by show 0 < 65536; omega, fun _ h => absurd h (Nat.not_lt_zero _), Nat.le_refl _, fun h => absurd h (Nat.lt_irrefl _)⟩, ⟨Nat.zero_le _, by show 20 ≤ 200; omega, Nat.zero_le _, Nat.zero_le _⟩, ⟨Nat.zero_le _, fun _ h => absurd h (Nat.not_lt_zero _)⟩, by show nI 0 + 0 = 0; decide +kernel⟩
theorem r00_ok : okR r00 := ⟨b00_ok, ⟨by show 0 < 8; omega, Nat.zero_le _, fun _ => b00_ok⟩, rfl⟩
theorem S0_eq : S0 = sS b00 b00 (eR r00) := rfl
theorem law_true (hL : L ≤ 260) : f_L_law L xs S0 = some 1 := by
  rw [S0_eq]
  unfold f_L_law
  exact t_10 hL 5 0 b00 b00 r00 b00_ok b00_ok r00_ok (by omega) (by omega)
end LW
