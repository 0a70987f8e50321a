/-! a minute of the model -/
def advM (c : MC) : MC :=
  if c.2.2.2.2.1 = 0 then (c.1, c.2.1, c.2.2.1, c.2.2.2.1, 0, c.2.2.2.2.2.1 + 1, c.2.2.2.2.2.2)
  else if c.2.1 (c.2.2.2.2.1 - 1) ≤ c.2.2.2.2.2.1 + 1 then
    (if c.2.2.2.2.1 < c.2.2.2.1 then (c.1, c.2.1, c.2.2.1, c.2.2.2.1, c.2.2.2.2.1 + 1, 0, c.2.2.2.2.2.2)
     else (c.1, c.2.1, c.2.2.1, c.2.2.2.1, 0, 0, c.2.2.2.2.2.2 + 1))
  else (c.1, c.2.1, c.2.2.1, c.2.2.2.1, c.2.2.2.2.1, c.2.2.2.2.2.1 + 1, c.2.2.2.2.2.2)
def cdN (t : Nat) : Nat := if t ≤ 20 then t else if 25 < t then t - 5 else 20
def coolN (T : NN) (c : Nat) : NN := fun i => if i < c then cdN (T i) else T i
def coolM (t : MT) : MT := (t.1, coolN t.2.1 t.2.2.2.2, t.2.2.1, t.2.2.2.1, t.2.2.2.2)
def pmM (x : MB) : MB :=
  if x.1.2.2.2.2.1 = 0 then (x.1, x.2.1, coolM x.2.2.1, (x.2.2.2.1, x.2.2.2.2.1 + 1, x.2.2.2.2.2.1, x.2.2.2.2.2.2))
  else (advM x.1, chM (x.1.1 (x.1.2.2.2.2.1 - 1)) (x.1.2.2.1 (x.1.2.2.2.2.1 - 1)) x.2.1, coolM x.2.2.1, (x.2.2.2.1, x.2.2.2.2.1 + 1, x.2.2.2.2.2.1, x.2.2.2.2.2.2))
theorem gk {k N : Nat} (h : k < N) (hN : N < 2 ^ 31) : ¬ (nI k < 0 ∨ N ≤ k) := fun q => q.elim (nI_pos (by omega)) (by omega)
theorem pI_of {p : Nat} (h : p ≠ 0) : pI p = nI (p - 1) := if_neg h
theorem advM_ok {c : MC} (ho : okC c) (hp : c.2.2.2.2.1 ≠ 0) : okC (advM c) := by
  obtain ⟨K, I, V, n, p, d, f⟩ := c
  obtain ⟨h1, h2, h3, h4, h5⟩ := ho
  simp only at h1 h2 h3 h4 h5 hp
  unfold advM okC
  simp only
  rw [if_neg hp]
  split
  · split
    · refine ⟨h1, h2, h3, by dsimp only; omega, fun _ => ?_⟩
      have := (h3 p (by omega)).2.1
      simp only [Nat.add_sub_cancel]
      omega
    · exact ⟨h1, h2, h3, Nat.zero_le _, fun h => absurd h (by simp)⟩
  · rename_i h
    exact ⟨h1, h2, h3, h4, fun _ => by dsimp only; omega⟩
theorem s_advance {c : MC} (ho : okC c) (hp : c.2.2.2.2.1 ≠ 0) : f_X2_advance (eF c.1) (eF c.2.1) (eF c.2.2.1) (nI c.2.2.2.1) (pI c.2.2.2.2.1) (nI c.2.2.2.2.2.1) c.2.2.2.2.2.2 = some (eC (advM c)) := by
  obtain ⟨K, I, V, n, p, d, f⟩ := c
  obtain ⟨h1, h2, h3, h4, h5⟩ := ho
  simp only at h1 h2 h3 h4 h5 hp ⊢
  obtain ⟨q, rfl⟩ : ∃ q, p = q + 1 := ⟨p - 1, by omega⟩
  rw [pI_s]
  unfold f_X2_advance
  rw [u_yes _ _ _ _ _ (by omega) h1]
  simp only [Option.bind_some]
  rw [if_neg (by decide), if_neg (nI_in (by omega) (by omega)), nI_clamp (by omega)]
  have h30 := (h3 q (by omega)).2.2.1
  have h6 := h5 (by omega)
  simp only [Nat.add_sub_cancel] at h6
  rw [nI_1 d, nI_1 q]
  by_cases h7 : I q ≤ d + 1
  · rw [if_pos (show eF I q ≤ nI (d + 1) from nI_le h7 (by omega))]
    by_cases h8 : q + 1 < n
    · have e : advM (K, I, V, n, q + 1, d, f) = (K, I, V, n, q + 1 + 1, 0, f) := by simp [advM, h7, h8]
      rw [if_pos (nI_lt h8 (by omega)), e]
      rfl
    · have e : advM (K, I, V, n, q + 1, d, f) = (K, I, V, n, 0, 0, f + 1) := by simp [advM, h7, h8]
      rw [if_neg (nI_nlt (by omega) (by omega)), e]
      rfl
  · have e : advM (K, I, V, n, q + 1, d, f) = (K, I, V, n, q + 1, d + 1, f) := by simp [advM, h7]
    rw [if_neg (show ¬ eF I q ≤ nI (d + 1) from nI_ge (by omega) (by omega)), e]
    rfl
theorem cdN_eq {t : Nat} (h : t < 1000) (h1 : ¬ t ≤ 20) : (if 20 < nI t - 5 then nI t - 5 else 20) = nI (cdN t) := by
  have e : nI t - 5 = nI (t - 5) := pk_sub (a := t) (b := 5) (by omega)
  rw [e]
  unfold cdN
  rw [if_neg h1]
  by_cases h2 : 25 < t
  · rw [if_pos (show 20 < nI (t - 5) from nI_lt (a := 20) (by omega) (by omega)), if_pos h2]
  · rw [if_neg (show ¬ 20 < nI (t - 5) from nI_nlt (b := t - 5) (a := 20) (by omega) (by omega)), if_neg h2]
    rfl
theorem s_cool_2 {M S C : Ar} {c : Nat} (hc : c ≤ 12) : ∀ (fu k : Nat) (T : NN), k ≤ c → c < fu + k → (∀ i, i < c → T i < 1000) → f_X4_coolDown_2 fu (nI k) M (eF T) S C (nI c) = some (M, eF (fun i => if k ≤ i ∧ i < c then cdN (T i) else T i), S, C, nI c) := by
  intro fu
  induction fu with
  | zero => intro k T h1 h2; omega
  | succ fu ih =>
    intro k T h1 h2 hT
    rw [f_X4_coolDown_2]
    by_cases h : c ≤ k
    · rw [if_pos (nI_le h (by omega))]
      have e : (fun i => if k ≤ i ∧ i < c then cdN (T i) else T i) = T := by
        funext i
        rw [if_neg (by omega)]
      rw [e]
    · have hk := hT k (by omega)
      rw [if_neg (nI_ge (by omega) (by omega)), if_neg (nI_in (by omega) (by omega)), nI_clamp (by omega), nI_1]
      by_cases h5 : T k ≤ 20
      · rw [if_pos (show eF T k ≤ 20 from nI_le (b := 20) h5 (by omega)), ih (k + 1) T (by omega) (by omega) hT]
        have e : (fun i => if k + 1 ≤ i ∧ i < c then cdN (T i) else T i) = (fun i => if k ≤ i ∧ i < c then cdN (T i) else T i) := by
          funext i
          by_cases hi : i = k
          · subst hi
            rw [if_neg (by omega), if_pos (by omega)]
            unfold cdN
            rw [if_pos h5]
          · by_cases h9 : k ≤ i ∧ i < c
            · rw [if_pos (by omega), if_pos h9]
            · rw [if_neg (by omega), if_neg h9]
        rw [e]
      · rw [if_neg (show ¬ eF T k ≤ 20 from nI_ge (a := 20) (by omega) (by omega)), if_neg (gk (by omega) (by omega)), if_neg (gk (by omega) (by omega))]
        rw [show (if 20 < eF T k - 5 then eF T k - 5 else 20) = nI (cdN (T k)) from cdN_eq hk h5, upd_eF, ih (k + 1) _ (by omega) (by omega) (fun i hi => by
          unfold upN
          split
          · unfold cdN
            split <;> (try split) <;> omega
          · exact hT i hi)]
        have e : (fun i => if k + 1 ≤ i ∧ i < c then cdN (upN T k (cdN (T k)) i) else upN T k (cdN (T k)) i) = (fun i => if k ≤ i ∧ i < c then cdN (T i) else T i) := by
          funext i
          unfold upN
          by_cases hi : i = k
          · subst hi
            rw [if_neg (by omega), if_pos rfl, if_pos (by omega)]
          · by_cases h9 : k ≤ i ∧ i < c
            · rw [if_pos (by omega), if_pos h9, if_neg hi]
            · rw [if_neg (by omega), if_neg h9, if_neg hi]
        rw [e]
theorem s_cool {t : MT} (ho : okT t) : f_X4_coolDown (eF t.1) (eF t.2.1) (eF t.2.2.1) (eF t.2.2.2.1) (nI t.2.2.2.2) = some (eT (coolM t)) := by
  obtain ⟨M, T, S, C, c⟩ := t
  obtain ⟨h1, h2⟩ := ho
  simp only at h1 h2 ⊢
  unfold f_X4_coolDown
  have h := s_cool_2 (M := eF M) (S := eF S) (C := eF C) h1 300 0 T (by omega) (by omega) (fun i hi => by have := (h2 i hi).2.2.1; omega)
  rw [nI_0] at h
  rw [h]
  unfold eT coolM coolN
  simp
theorem cdN_le {t : Nat} : cdN t ≤ t := by
  unfold cdN
  split
  · omega
  · split <;> omega
theorem coolM_ok {t : MT} (ho : okT t) : okT (coolM t) := by
  obtain ⟨M, T, S, C, c⟩ := t
  obtain ⟨h1, h2⟩ := ho
  refine ⟨h1, fun i hi => ?_⟩
  have hi : i < c := hi
  obtain ⟨a1, a2, a3, a4, a5⟩ := h2 i hi
  refine ⟨a1, a2, ?_, a4, a5⟩
  show coolN T c i ≤ 200
  unfold coolN
  rw [if_pos hi]
  exact Nat.le_trans cdN_le a3
theorem pmM_ok {x : MB} (ho : okB x) : okB (pmM x) := by
  obtain ⟨c, h, t, G, mi, lo, gr⟩ := x
  obtain ⟨h1, h2, h3, h4⟩ := ho
  simp only at h1 h2 h3
  unfold pmM
  simp only
  split
  · exact ⟨h1, h2, coolM_ok h3, h4⟩
  · rename_i hp
    have hv := ((h1.2.2.1 (c.2.2.2.2.1 - 1) (by have := h1.2.2.2.1; omega)).2.2.2.2)
    obtain ⟨a1, a2⟩ := chM_ok (k := c.1 (c.2.2.2.2.1 - 1)) (v := c.2.2.1 (c.2.2.2.2.1 - 1)) h2 hv
    refine ⟨advM_ok h1 hp, a1, coolM_ok h3, ?_⟩
    unfold okM at h4 ⊢
    simp only at h4 ⊢
    rw [a2]
    exact h4
theorem s_pm {x : MB} (ho : okB x) : g_X0_passMinute (eB x) = some (eB (pmM x)) := by
  obtain ⟨⟨K, I, V, n, p, d, f⟩, ⟨m, t, s, st⟩, ⟨M, T, S, C, c⟩, G, mi, lo, gr⟩ := x
  obtain ⟨h1, h2, h3, h4⟩ := ho
  simp only at h1 h2 h3
  show f_X0_passMinute (eF K) (eF I) (eF V) (nI n) (pI p) (nI d) f (nI m) (nI t) (nI s) (nI st) (eF M) (eF T) (eF S) (eF C) (nI c) G mi lo gr = _
  unfold f_X0_passMinute pmM
  have hc := s_cool h3
  simp only at hc ⊢
  by_cases hp : p = 0
  · subst hp
    rw [pI_0, u_no]
    simp only [Option.bind_some, if_true]
    rw [hc]
    rfl
  · obtain ⟨q, rfl⟩ : ∃ q, p = q + 1 := ⟨p - 1, by omega⟩
    have h8 := h1.1
    have hq := h1.2.2.2.1
    simp only at h8 hq
    obtain ⟨hk, -, -, -, hv⟩ := h1.2.2.1 q (show q < n by omega)
    have ha := s_advance h1 (show q + 1 ≠ 0 by omega)
    simp only at ha hk hv
    rw [pI_s] at ha ⊢
    rw [u_yes _ _ _ _ _ (by omega) h8]
    simp only [Option.bind_some]
    rw [if_neg (by decide), if_neg (nI_in (by omega) (by omega)), if_neg (nI_in (by omega) (by omega)), nI_clamp (by omega)]
    rw [if_neg (show ¬ q + 1 = 0 by omega)]
    rw [show f_X1_change (nI m) (nI t) (nI s) (nI st) (eF K q) (eF V q) = _ from s_change h2 hv hk]
    simp only [bX1, Option.bind_some, eH]
    rw [ha]
    simp only [bX2, Option.bind_some, eC]
    rw [hc]
    rfl
