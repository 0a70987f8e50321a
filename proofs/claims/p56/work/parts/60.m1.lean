/-! the pure model: a batch in natural numbers -/
abbrev NN : Type := Nat → Nat
abbrev MC : Type := NN × NN × NN × Nat × Nat × Nat × Int32
abbrev MH : Type := Nat × Nat × Nat × Nat
abbrev MT : Type := NN × NN × NN × NN × Nat
abbrev MB : Type := MC × MH × MT × SX5
/-- the present phase: 0 for none, q + 1 for q -/
def pI (k : Nat) : Int32 := if k = 0 then -1 else nI (k - 1)
def eF (f : NN) : Ar := fun i => nI (f i)
def eC (c : MC) : SX2 := (eF c.1, eF c.2.1, eF c.2.2.1, nI c.2.2.2.1, pI c.2.2.2.2.1, nI c.2.2.2.2.2.1, c.2.2.2.2.2.2)
def eH (h : MH) : SX1 := (nI h.1, nI h.2.1, nI h.2.2.1, nI h.2.2.2)
def eT (t : MT) : SX4 := (eF t.1, eF t.2.1, eF t.2.2.1, eF t.2.2.2.1, nI t.2.2.2.2)
def eB (x : MB) : SX0 := (eC x.1, eH x.2.1, eT x.2.2.1, x.2.2.2)
def isK (k : Nat) : Prop := k = 104 ∨ k = 99 ∨ k = 116 ∨ k = 114
def okC (c : MC) : Prop := c.2.2.2.1 ≤ 8 ∧ (∀ i, c.1 i < 65536) ∧ (∀ i, i < c.2.2.2.1 → isK (c.1 i) ∧ 1 ≤ c.2.1 i ∧ c.2.1 i ≤ 30 ∧ 1 ≤ c.2.2.1 i ∧ c.2.2.1 i ≤ 5) ∧ c.2.2.2.2.1 ≤ c.2.2.2.1 ∧ (0 < c.2.2.2.2.1 → c.2.2.2.2.2.1 < c.2.1 (c.2.2.2.2.1 - 1))
def okH (h : MH) : Prop := h.1 ≤ 100 ∧ h.2.1 ≤ 200 ∧ h.2.2.1 ≤ 100 ∧ h.2.2.2 ≤ 99
def okT (t : MT) : Prop := t.2.2.2.2 ≤ 12 ∧ ∀ i, i < t.2.2.2.2 → 1 ≤ t.1 i ∧ t.1 i ≤ 20 ∧ t.2.1 i ≤ 200 ∧ t.2.2.1 i ≤ 100 ∧ t.2.2.2.1 i ≤ 10
def sU (f : NN) : Nat → Nat
  | 0 => 0
  | n + 1 => sU f n + f n
def okM (x : MB) : Prop := nI (x.2.1.1 + sU x.2.2.1.1 x.2.2.1.2.2.2.2) + x.2.2.2.2.2.2 = x.2.2.2.2.2.1
def okB (x : MB) : Prop := okC x.1 ∧ okH x.2.1 ∧ okT x.2.2.1 ∧ okM x
theorem sU_mono (f : NN) {a b : Nat} (h : a ≤ b) : sU f a ≤ sU f b := by
  induction b with
  | zero => rw [Nat.le_zero.mp h]; exact Nat.le_refl _
  | succ b ih =>
    rcases Nat.lt_or_ge a (b + 1) with h1 | h1
    · exact Nat.le_trans (ih (Nat.le_of_lt_succ h1)) (Nat.le_add_right _ _)
    · rw [Nat.le_antisymm h h1]; exact Nat.le_refl _
theorem sU_le (f : NN) (k : Nat) : ∀ n, (∀ i, i < n → f i ≤ k) → sU f n ≤ n * k := by
  intro n
  induction n with
  | zero => intro _; exact Nat.zero_le _
  | succ n ih =>
    intro h
    have h1 := ih fun i hi => h i (Nat.lt_succ_of_lt hi)
    have h2 := h n (Nat.lt_succ_self n)
    have h3 : sU f (n + 1) = sU f n + f n := rfl
    rw [h3, Nat.succ_mul]
    omega
theorem sU_congr {f g : NN} : ∀ n, (∀ i, i < n → f i = g i) → sU f n = sU g n := by
  intro n
  induction n with
  | zero => intro _; rfl
  | succ n ih =>
    intro h
    have h1 := ih fun i hi => h i (Nat.lt_succ_of_lt hi)
    have h2 := h n (Nat.lt_succ_self n)
    show sU f n + f n = sU g n + g n
    rw [h1, h2]
def upN (f : NN) (k v : Nat) : NN := fun j => if j = k then v else f j
theorem upd_eF (f : NN) (k v : Nat) : upd (eF f) k (nI v) = eF (upN f k v) := by
  funext j
  simp only [upd, eF, upN]
  split <;> rfl
theorem nar_nI {k : Nat} (h : k < 65536) : vp_nar .char (nI k) = nI k := by
  have h1 : 0 ≤ nI k ∧ nI k ≤ 65535 := ⟨nI_pos' (by omega), nI_le (b := 65535) (by omega) (by omega)⟩
  simp only [vp_nar, (nar_c h1).1]
theorem chOk_eF {n : Nat} {f : NN} (h : ∀ i, f i < 65536) : chOk n (eF f) = true := chOk_of fun i _ => ⟨nI_pos' (by have := h i; omega), nI_le (b := 65535) (by have := h i; omega) (by omega)⟩
theorem pI_0 : pI 0 = -1 := rfl
theorem pI_s (q : Nat) : pI (q + 1) = nI q := rfl
theorem u_no (k i v : Ar) (a d f : Int32) : f_X2_isUnderWay k i v a (-1) d f = some 0 := by
  unfold f_X2_isUnderWay f_X2_has
  rw [if_pos (by decide)]
  rfl
theorem u_yes (k i v : Ar) (d f : Int32) {n q : Nat} (hq : q < n) (hn : n ≤ 8) : f_X2_isUnderWay k i v (nI n) (nI q) d f = some 1 := by
  unfold f_X2_isUnderWay f_X2_has
  rw [if_neg (nI_pos (by omega)), if_neg (nI_ge hq (by omega))]
  rfl
/-- the phase's change -/
def chM (k v : Nat) (h : MH) : MH :=
  if k = 104 then (h.1, (if h.2.1 + 3 * v < 200 then h.2.1 + 3 * v else 200), h.2.2.1, h.2.2.2)
  else if k = 99 then (h.1, h.2.1 - 2 * v, h.2.2.1, h.2.2.2)
  else if k = 116 then (if h.2.1 ≤ 120 then (if h.2.1 < 40 then h else (h.1, h.2.1, (if h.2.2.1 + v < 100 then h.2.2.1 + v else 100), h.2.2.2)) else (h.1, h.2.1, h.2.2.1, (if h.2.2.2 + v < 99 then h.2.2.2 + v else 99)))
  else (h.1, (if h.2.1 ≤ 20 then (if 20 ≤ h.2.1 then h.2.1 else h.2.1 + 1) else h.2.1 - 1), h.2.2.1, h.2.2.2 - v)
theorem chM_ok {k v : Nat} {h : MH} (ho : okH h) (hv : v ≤ 5) : okH (chM k v h) ∧ (chM k v h).1 = h.1 := by
  obtain ⟨m, t, s, st⟩ := h
  obtain ⟨h1, h2, h3, h4⟩ := ho
  simp only at h1 h2 h3 h4
  unfold chM okH
  simp only
  (repeat' split) <;> (refine ⟨⟨?_, ?_, ?_, ?_⟩, rfl⟩) <;> (try dsimp only) <;> omega
theorem sub_max {a b : Nat} (ha : a < 1000) (hb : b < 1000) : (if 0 < nI a - nI b then nI a - nI b else 0) = nI (a - b) := by
  by_cases h : b < a
  · rw [pk_sub (Nat.le_of_lt h), if_pos]
    have := nI_lt (a := 0) (b := a - b) (by omega) (by omega)
    rwa [nI_0] at this
  · have h0 : a - b = 0 := by omega
    rw [h0, nI_0]
    by_cases he : a = b
    · subst he
      rw [pk_sub (Nat.le_refl _), Nat.sub_self, nI_0]
      decide
    · rw [if_neg]
      intro h9
      have h8 := pk_sneg (a := a) (b := b) (by omega) (by omega)
      exact absurd (Int32.lt_trans h9 h8) (by decide)
theorem s_change {m t s st k v : Nat} (ho : okH (m, t, s, st)) (hv : v ≤ 5) (hk : isK k) : f_X1_change (nI m) (nI t) (nI s) (nI st) (nI k) (nI v) = some (eH (chM k v (m, t, s, st))) := by
  obtain ⟨h1, h2, h3, h4⟩ := ho
  simp only at h1 h2 h3 h4
  have e3 : (3 : Int32) * nI v = nI (3 * v) := pk_mul 3 v
  have e2 : (2 : Int32) * nI v = nI (2 * v) := pk_mul 2 v
  unfold f_X1_change
  rcases hk with rfl | rfl | rfl | rfl
  · rw [if_pos (by decide +kernel), e3, nI_add]
    simp only [chM, eH]
    by_cases h : t + 3 * v < 200
    · rw [if_pos (show nI (t + 3 * v) < 200 from nI_lt (b := 200) h (by omega))]
      simp [h]
    · rw [if_neg (show ¬ nI (t + 3 * v) < 200 from nI_nlt (b := 200) (by omega) (by omega))]
      simp [h]
      rfl
  · rw [if_neg (by decide +kernel), if_pos (by decide +kernel), e2, sub_max (by omega) (by omega)]
    rfl
  · rw [if_neg (by decide +kernel), if_neg (by decide +kernel), if_pos (by decide +kernel)]
    unfold f_X1_turn
    simp only [chM, eH, nI_add]
    by_cases h : t ≤ 120
    · rw [if_pos (show nI t ≤ 120 from nI_le (b := 120) h (by omega))]
      by_cases h5 : t < 40
      · rw [if_pos (show nI t < 40 from nI_lt (b := 40) h5 (by omega))]
        simp [h, h5, bX1]
      · rw [if_neg (show ¬ nI t < 40 from nI_nlt (b := 40) (by omega) (by omega))]
        by_cases h6 : s + v < 100
        · rw [if_pos (show nI (s + v) < 100 from nI_lt (b := 100) h6 (by omega))]
          simp [h, h5, h6, bX1]
        · rw [if_neg (show ¬ nI (s + v) < 100 from nI_nlt (b := 100) (by omega) (by omega))]
          simp [h, h5, h6, bX1]
          rfl
    · rw [if_neg (show ¬ nI t ≤ 120 from nI_ge (a := 120) (by omega) (by omega))]
      by_cases h6 : st + v < 99
      · rw [if_pos (show nI (st + v) < 99 from nI_lt (b := 99) h6 (by omega))]
        simp [h, h6, bX1]
      · rw [if_neg (show ¬ nI (st + v) < 99 from nI_nlt (b := 99) (by omega) (by omega))]
        simp [h, h6, bX1]
        rfl
  · rw [if_neg (by decide +kernel), if_neg (by decide +kernel), if_neg (by decide +kernel)]
    unfold f_X1_rest f_X1_rest_41
    simp only [chM, eH]
    rw [sub_max (by omega) (by omega)]
    by_cases h : t ≤ 20
    · rw [if_pos (show nI t ≤ 20 from nI_le (b := 20) h (by omega))]
      by_cases h5 : 20 ≤ t
      · rw [if_pos (show 20 ≤ nI t from nI_le (a := 20) h5 (by omega))]
        simp [h, h5, bX1]
      · rw [if_neg (show ¬ 20 ≤ nI t from nI_ge (b := 20) (by omega) (by omega)), nI_1]
        simp [h, h5, bX1]
    · rw [if_neg (show ¬ nI t ≤ 20 from nI_ge (a := 20) (by omega) (by omega)), show nI t - 1 = nI (t - 1) from pk_sub (a := t) (b := 1) (by omega)]
      simp [h, bX1]
