/-! minutes -/
def itN : Nat → MB → MB
  | 0, x => x
  | k + 1, x => itN k (pmM x)
def lf (x : MB) : Nat := if x.1.2.2.2.2.1 = 0 then 0 else sU x.1.2.1 x.1.2.2.2.1 - sU x.1.2.1 (x.1.2.2.2.2.1 - 1) - x.1.2.2.2.2.2.1
def tmp (x : MB) : Nat := x.2.1.2.1
def fin9 (x : MB) : Int32 := x.1.2.2.2.2.2.2
theorem itN_ok : ∀ (k : Nat) {x : MB}, okB x → okB (itN k x) := by
  intro k
  induction k with
  | zero => intro x h; exact h
  | succ k ih => intro x h; exact ih (pmM_ok h)
theorem lf_facts {x : MB} (ho : okB x) : lf x ≤ 240 ∧ (x.1.2.2.2.2.1 ≠ 0 → 1 ≤ lf x ∧ lf (pmM x) + 1 = lf x ∧ fin9 (pmM x) = (if lf x = 1 then fin9 x + 1 else fin9 x)) ∧ (x.1.2.2.2.2.1 = 0 → lf x = 0 ∧ lf (pmM x) = 0 ∧ fin9 (pmM x) = fin9 x) := by
  obtain ⟨⟨K, I, V, n, p, d, f⟩, h, t, G, mi, lo, gr⟩ := x
  obtain ⟨⟨h1, -, h3, h4, h5⟩, -⟩ := ho
  simp only at h1 h3 h4 h5
  have hs : sU I n ≤ n * 30 := sU_le I 30 n fun i hi => (h3 i hi).2.2.1
  refine ⟨?_, fun hp => ?_, fun hp => ?_⟩
  · unfold lf
    simp only
    split <;> omega
  · simp only at hp
    obtain ⟨q, rfl⟩ : ∃ q, p = q + 1 := ⟨p - 1, by omega⟩
    have h6 := h5 (by omega)
    simp only [Nat.add_sub_cancel] at h6
    have e1 : sU I (q + 1) = sU I q + I q := rfl
    have e2 : sU I (q + 1) ≤ sU I n := sU_mono I h4
    have el : lf ((K, I, V, n, q + 1, d, f), h, t, G, mi, lo, gr) = sU I n - sU I q - d := by simp [lf]
    refine ⟨by rw [el]; omega, ?_⟩
    by_cases h7 : I q ≤ d + 1
    · by_cases h8 : q + 1 < n
      · have e : (pmM ((K, I, V, n, q + 1, d, f), h, t, G, mi, lo, gr)).1 = (K, I, V, n, q + 1 + 1, 0, f) := by simp [pmM, advM, h7, h8]
        have e3 : sU I (q + 1 + 1) = sU I (q + 1) + I (q + 1) := rfl
        have e4 : sU I (q + 1 + 1) ≤ sU I n := sU_mono I h8
        have h9 := (h3 (q + 1) h8).2.1
        refine ⟨?_, ?_⟩
        · rw [el]
          unfold lf
          rw [e]
          simp only [Nat.add_sub_cancel]
          rw [if_neg (by omega)]
          omega
        · unfold fin9
          rw [e, el, if_neg (by omega)]
      · have e : (pmM ((K, I, V, n, q + 1, d, f), h, t, G, mi, lo, gr)).1 = (K, I, V, n, 0, 0, f + 1) := by simp [pmM, advM, h7, h8]
        have hn : n = q + 1 := by omega
        subst hn
        refine ⟨?_, ?_⟩
        · rw [el]
          unfold lf
          rw [e]
          simp only [if_true]
          omega
        · unfold fin9
          rw [e, el, if_pos (by omega)]
    · have e : (pmM ((K, I, V, n, q + 1, d, f), h, t, G, mi, lo, gr)).1 = (K, I, V, n, q + 1, d + 1, f) := by simp [pmM, advM, h7]
      refine ⟨?_, ?_⟩
      · rw [el]
        unfold lf
        rw [e]
        simp only [Nat.add_sub_cancel]
        rw [if_neg (by omega)]
        omega
      · unfold fin9
        rw [e, el, if_neg (by omega)]
  · simp only at hp
    subst hp
    refine ⟨by simp [lf], by simp [lf, pmM], by simp [fin9, pmM]⟩
theorem lf_run {x : MB} (ho : okB x) : x.1.2.2.2.2.1 = 0 ↔ lf x = 0 := by
  obtain ⟨-, h1, h2⟩ := lf_facts ho
  constructor
  · intro h; exact (h2 h).1
  · intro h
    by_cases hp : x.1.2.2.2.2.1 = 0
    · exact hp
    · have := (h1 hp).1; omega
theorem lf_pm {x : MB} (ho : okB x) : lf (pmM x) = lf x - 1 := by
  obtain ⟨-, h1, h2⟩ := lf_facts ho
  by_cases hp : x.1.2.2.2.2.1 = 0
  · have := h2 hp; omega
  · have := (h1 hp).2.1; omega
theorem fin_pm {x : MB} (ho : okB x) : fin9 (pmM x) = (if lf x = 1 then fin9 x + 1 else fin9 x) := by
  obtain ⟨-, h1, h2⟩ := lf_facts ho
  by_cases hp : x.1.2.2.2.2.1 = 0
  · have := h2 hp
    rw [this.2.2, if_neg (by omega)]
  · exact (h1 hp).2.2
theorem lf_it : ∀ (k : Nat) {x : MB}, okB x → lf (itN k x) = lf x - k := by
  intro k
  induction k with
  | zero => intro x _; rfl
  | succ k ih =>
    intro x ho
    show lf (itN k (pmM x)) = _
    rw [ih (pmM_ok ho), lf_pm ho]
    omega
theorem fin_it : ∀ (k : Nat) {x : MB}, okB x → fin9 (itN k x) = (if 0 < lf x ∧ lf x ≤ k then fin9 x + 1 else fin9 x) := by
  intro k
  induction k with
  | zero =>
    intro x _
    rw [if_neg (by omega)]
    rfl
  | succ k ih =>
    intro x ho
    show fin9 (itN k (pmM x)) = _
    rw [ih (pmM_ok ho), lf_pm ho, fin_pm ho]
    by_cases h1 : lf x = 1
    · rw [if_neg (by omega), if_pos h1, if_pos (by omega)]
    · rw [if_neg h1]
      by_cases h2 : 0 < lf x ∧ lf x ≤ k + 1
      · rw [if_pos h2, if_pos (by omega)]
      · rw [if_neg h2, if_neg (by omega)]
theorem s_under {x : MB} (ho : okB x) : g_X2_isUnderWay (eB x).1 = some (if lf x = 0 then 0 else 1) := by
  have hr := lf_run ho
  obtain ⟨⟨K, I, V, n, p, d, f⟩, h, t, G, mi, lo, gr⟩ := x
  obtain ⟨⟨h1, -, -, h4, -⟩, -⟩ := ho
  simp only at h1 h4 hr
  show f_X2_isUnderWay (eF K) (eF I) (eF V) (nI n) (pI p) (nI d) f = _
  by_cases hp : p = 0
  · rw [if_pos (hr.mp hp)]
    subst hp
    rw [pI_0, u_no]
  · rw [if_neg fun h => hp (hr.mpr h), pI_of hp, u_yes _ _ _ _ _ (by omega) h1]
theorem s_copy {b : SX0} {x : MB} (ho : okB x) : g_X0_copyFrom b (eB x) = some (eB x) := by
  obtain ⟨⟨K, I, V, n, p, d, f⟩, h, t, G, mi, lo, gr⟩ := x
  obtain ⟨⟨-, h2, -⟩, -⟩ := ho
  have hk : chOk 8 (eF K) = true := chOk_eF h2
  unfold g_X0_copyFrom f_X0_copyFrom f_X2_copyFrom
  rw [if_neg (show ¬ chOk 8 (eB ((K, I, V, n, p, d, f), h, t, G, mi, lo, gr)).1.1 = false by
    show ¬ chOk 8 (eF K) = false
    rw [hk]
    decide)]
  rfl
/-- the loop of passMinutes over one batch -/
def pm4 (q : Int32) (fu : Nat) (a i : Int32) (s : SX0) : Option (Int32 × SX0) := f_X0_passMinutes_4 q fu a i s.1.1 s.1.2.1 s.1.2.2.1 s.1.2.2.2.1 s.1.2.2.2.2.1 s.1.2.2.2.2.2.1 s.1.2.2.2.2.2.2 s.2.1.1 s.2.1.2.1 s.2.1.2.2.1 s.2.1.2.2.2 s.2.2.1.1 s.2.2.1.2.1 s.2.2.1.2.2.1 s.2.2.1.2.2.2.1 s.2.2.1.2.2.2.2 s.2.2.2.1 s.2.2.2.2.1 s.2.2.2.2.2.1 s.2.2.2.2.2.2
theorem pm4_s (q : Int32) (fu : Nat) (a i : Int32) (s : SX0) : pm4 q (fu + 1) a i s = (if q ≤ i then some (a, s) else (g_X2_isUnderWay s.1).bind fun r => if r = 0 then (g_X0_passMinute s).bind fun s1 => pm4 q fu a (i + 1) s1 else (g_X0_passMinute s).bind fun s1 => pm4 q fu (a + 1) (i + 1) s1) := by
  unfold pm4
  rw [f_X0_passMinutes_4]
  rfl
theorem s_pm4 {k : Nat} (hk : k ≤ 240) : ∀ (fu a i : Nat) (x : MB), okB x → k < fu + i → i ≤ k → pm4 (nI k) fu (nI a) (nI i) (eB x) = some (nI (a + min (lf x) (k - i)), eB (itN (k - i) x)) := by
  intro fu
  induction fu with
  | zero => intro a i x ho h1 h2; omega
  | succ fu ih =>
    intro a i x ho h1 h2
    rw [pm4_s]
    by_cases h : k ≤ i
    · rw [if_pos (nI_le h (by omega)), show k - i = 0 by omega, Nat.min_zero, Nat.add_zero]
      rfl
    · rw [if_neg (nI_ge (by omega) (by omega)), s_under ho, s_pm ho]
      simp only [Option.bind_some]
      have e : itN (k - i) x = itN (k - (i + 1)) (pmM x) := by
        rw [show k - i = k - (i + 1) + 1 by omega]
        rfl
      by_cases hl : lf x = 0
      · rw [if_pos hl, if_pos rfl, nI_1, ih a (i + 1) (pmM x) (pmM_ok ho) (by omega) (by omega), lf_pm ho, e, hl]
        simp
      · rw [if_neg hl, if_neg (by decide), nI_1, nI_1, ih (a + 1) (i + 1) (pmM x) (pmM_ok ho) (by omega) (by omega), lf_pm ho, e, show a + 1 + min (lf x - 1) (k - (i + 1)) = a + min (lf x) (k - i) by omega]
theorem s_pms {x : MB} (ho : okB x) {k : Nat} (hk : k ≤ 240) : g_X0_passMinutes (eB x) (nI k) = some (nI (min (lf x) k), eB (itN k x)) := by
  have h := s_pm4 hk 300 0 0 x ho (by omega) (by omega)
  rw [nI_0, Nat.zero_add, Nat.sub_zero] at h
  exact h
theorem tab_pm (x : MB) : (pmM x).2.2.1 = coolM x.2.2.1 := by
  unfold pmM
  split <;> rfl
