/-! reading a text looks at its signs alone -/
section TX
variable {n : Nat} {a0 b0 : Ar}
theorem t_idx {a2 : Int32} (hn : n ≤ 60) (c1 : ¬ nI n ≤ a2) (g : ¬ (a2 < 0 ∨ 60 ≤ a2.toNatClampNeg)) : a2.toNatClampNeg < n := by
  rcases pk_ix a2 (n := n) (by omega) with h | h | ⟨j, hj, rfl⟩
  · exact absurd (Or.inl h) g
  · exact absurd h c1
  · rw [nI_clamp (by omega)]
    exact hj
theorem t_sign (hn : n ≤ 60) (h : ∀ j, j < n → a0 j = b0 j) {a2 : Int32} {a3 a4 a5 a6 : Ar} {a7 p v : Int32} {y : SX6} (H : f_X6_readSign a0 (nI n) a2 a3 a4 a5 a6 a7 p = some (v, y)) : ∃ c2, y = (a0, nI n, c2, a3, a4, a5, a6, a7) ∧ ∀ b3 b4 b5 b6, f_X6_readSign b0 (nI n) a2 b3 b4 b5 b6 a7 p = some (v, (b0, nI n, c2, b3, b4, b5, b6, a7)) := by
  unfold f_X6_readSign at H
  by_cases c1 : nI n ≤ a2
  · rw [if_pos c1] at H
    cases H
    exact ⟨a2, rfl, fun b3 b4 b5 b6 => by unfold f_X6_readSign; rw [if_pos c1]⟩
  · rw [if_neg c1] at H
    obtain ⟨g, H⟩ := gd H
    have e := h _ (t_idx hn c1 g)
    by_cases c2 : a0 a2.toNatClampNeg = p
    · rw [if_pos c2] at H
      cases H
      exact ⟨a2 + 1, rfl, fun b3 b4 b5 b6 => by unfold f_X6_readSign; rw [if_neg c1, if_neg g, ← e, if_pos c2]⟩
    · rw [if_neg c2] at H
      cases H
      exact ⟨a2, rfl, fun b3 b4 b5 b6 => by unfold f_X6_readSign; rw [if_neg c1, if_neg g, ← e, if_neg c2]⟩
theorem t_num4 (hn : n ≤ 60) (h : ∀ j, j < n → a0 j = b0 j) {a3 a4 a5 a6 : Ar} {a7 p v : Int32} {y : SX6} : ∀ (fu : Nat) (x2 x3 a2 : Int32), f_X6_readNumber_4 p fu x2 x3 a0 (nI n) a2 a3 a4 a5 a6 a7 = some (v, y) → ∃ c2, y = (a0, nI n, c2, a3, a4, a5, a6, a7) ∧ ∀ b3 b4 b5 b6, f_X6_readNumber_4 p fu x2 x3 b0 (nI n) a2 b3 b4 b5 b6 a7 = some (v, (b0, nI n, c2, b3, b4, b5, b6, a7)) := by
  intro fu
  induction fu with
  | zero =>
    intro x2 x3 a2 H
    rw [f_X6_readNumber_4] at H
    cases H
  | succ fu ih =>
    intro x2 x3 a2 H
    rw [f_X6_readNumber_4] at H
    by_cases c0 : p ≤ x3
    · rw [if_pos c0] at H
      cases H
      exact ⟨a2, rfl, fun b3 b4 b5 b6 => by rw [f_X6_readNumber_4, if_pos c0]⟩
    · rw [if_neg c0] at H
      by_cases c1 : nI n ≤ a2
      · rw [if_pos c1] at H
        cases H
        exact ⟨a2, rfl, fun b3 b4 b5 b6 => by rw [f_X6_readNumber_4, if_neg c0, if_pos c1]⟩
      · rw [if_neg c1] at H
        obtain ⟨g, H⟩ := gd H
        have e := h _ (t_idx hn c1 g)
        obtain ⟨r5, hr, H⟩ := bd H
        by_cases c2 : r5 = 0
        · rw [if_pos c2] at H
          cases H
          exact ⟨a2, rfl, fun b3 b4 b5 b6 => by rw [f_X6_readNumber_4, if_neg c0, if_neg c1, if_neg g, ← e, hr, Option.bind_some, if_pos c2]⟩
        · rw [if_neg c2] at H
          obtain ⟨-, H⟩ := gd H
          obtain ⟨c, e1, e2⟩ := ih _ _ _ H
          exact ⟨c, e1, fun b3 b4 b5 b6 => by rw [f_X6_readNumber_4, if_neg c0, if_neg c1, if_neg g, ← e, hr, Option.bind_some, if_neg c2, if_neg g]; exact e2 b3 b4 b5 b6⟩
theorem t_num (hn : n ≤ 60) (h : ∀ j, j < n → a0 j = b0 j) {a2 : Int32} {a3 a4 a5 a6 : Ar} {a7 p v : Int32} {y : SX6} (H : f_X6_readNumber a0 (nI n) a2 a3 a4 a5 a6 a7 p = some (v, y)) : ∃ c2, y = (a0, nI n, c2, a3, a4, a5, a6, a7) ∧ ∀ b3 b4 b5 b6, f_X6_readNumber b0 (nI n) a2 b3 b4 b5 b6 a7 p = some (v, (b0, nI n, c2, b3, b4, b5, b6, a7)) := t_num4 hn h 300 (-1) 0 a2 H
theorem t_like (hn : n ≤ 60) (h : ∀ j, j < n → a0 j = b0 j) {a2 : Int32} {a3 a4 a5 a6 : Ar} {a7 v : Int32} {p : Nat} : ∀ (fu : Nat) (x2 : Int32), f_X6_signsAlike_2 a0 (nI n) a2 a3 a4 a5 a6 a7 p fu x2 = some v → ∀ b3 b4 b5 b6, f_X6_signsAlike_2 b0 (nI n) a2 b3 b4 b5 b6 a7 p fu x2 = some v := by
  intro fu
  induction fu with
  | zero =>
    intro x2 H
    rw [f_X6_signsAlike_2] at H
    cases H
  | succ fu ih =>
    intro x2 H b3 b4 b5 b6
    rw [f_X6_signsAlike_2] at H ⊢
    obtain ⟨g0, H⟩ := gd H
    rw [if_neg g0]
    by_cases c0 : nI (sx p).length ≤ x2
    · rw [if_pos c0] at H ⊢
      exact H
    · rw [if_neg c0] at H ⊢
      by_cases c1 : nI n ≤ a2 + x2
      · rw [if_pos c1] at H ⊢
        exact H
      · rw [if_neg c1] at H ⊢
        obtain ⟨g, H⟩ := gd H
        obtain ⟨g2, H⟩ := gd H
        obtain ⟨g3, H⟩ := gd H
        have e := h _ (t_idx hn c1 g)
        rw [if_neg g, if_neg g2, if_neg g3, ← e]
        by_cases c2 : a0 (a2 + x2).toNatClampNeg = ((sx p).getD x2.toNatClampNeg 0 &&& 255)
        · rw [if_pos c2] at H ⊢
          exact ih _ H b3 b4 b5 b6
        · rw [if_neg c2] at H ⊢
          exact H
theorem t_word7 (hn : n ≤ 60) (h : ∀ j, j < n → a0 j = b0 j) {a2 : Int32} {a3 a4 a5 a6 : Ar} {a7 v : Int32} {y : SX6} : ∀ (fu : Nat) (x1 x2 : Int32), f_X6_readWord_7 fu x1 x2 a0 (nI n) a2 a3 a4 a5 a6 a7 = some (v, y) → ∃ c2, y = (a0, nI n, c2, a3, a4, a5, a6, a7) ∧ ∀ b3 b4 b5 b6, f_X6_readWord_7 fu x1 x2 b0 (nI n) a2 b3 b4 b5 b6 a7 = some (v, (b0, nI n, c2, b3, b4, b5, b6, a7)) := by
  intro fu
  induction fu with
  | zero =>
    intro x1 x2 H
    rw [f_X6_readWord_7] at H
    cases H
  | succ fu ih =>
    intro x1 x2 H
    rw [f_X6_readWord_7] at H
    by_cases c0 : 9 ≤ x2
    · rw [if_pos c0] at H
      cases H
      exact ⟨x1, rfl, fun b3 b4 b5 b6 => by rw [f_X6_readWord_7, if_pos c0]⟩
    · rw [if_neg c0] at H
      obtain ⟨r3, h3, H⟩ := bd H
      obtain ⟨r5, h5, H⟩ := bd H
      obtain ⟨r7, h7, H⟩ := bd H
      obtain ⟨g, HH⟩ := gd H
      have e5 := t_like hn h 300 0 h5
      have e7 : r7 = r3 := Option.some.inj (h7.symm.trans h3)
      subst e7
      by_cases c1 : r5 = nI (sx r7).length
      · rw [if_pos c1] at HH
        cases HH
        exact ⟨_, rfl, fun b3 b4 b5 b6 => by rw [f_X6_readWord_7, if_neg c0, h3, Option.bind_some, show f_X6_signsAlike b0 (nI n) a2 b3 b4 b5 b6 a7 r7 = _ from e5 b3 b4 b5 b6, Option.bind_some, Option.bind_some, if_neg g, if_pos c1]⟩
      · rw [if_neg c1] at HH
        obtain ⟨c, e1, e2⟩ := ih _ _ HH
        exact ⟨c, e1, fun b3 b4 b5 b6 => by rw [f_X6_readWord_7, if_neg c0, h3, Option.bind_some, show f_X6_signsAlike b0 (nI n) a2 b3 b4 b5 b6 a7 r7 = _ from e5 b3 b4 b5 b6, Option.bind_some, Option.bind_some, if_neg g, if_neg c1]; exact e2 b3 b4 b5 b6⟩
theorem t_word (hn : n ≤ 60) (h : ∀ j, j < n → a0 j = b0 j) {a2 : Int32} {a3 a4 a5 a6 : Ar} {a7 v : Int32} {y : SX6} (H : f_X6_readWord a0 (nI n) a2 a3 a4 a5 a6 a7 = some (v, y)) : ∃ c2, y = (a0, nI n, c2, a3, a4, a5, a6, a7) ∧ ∀ b3 b4 b5 b6, f_X6_readWord b0 (nI n) a2 b3 b4 b5 b6 a7 = some (v, (b0, nI n, c2, b3, b4, b5, b6, a7)) := t_word7 hn h 300 a2 0 H
theorem bIX6_some {β : Type} (z : Int32) (y : SX6) (k : Int32 → Ar → Int32 → Int32 → Ar → Ar → Ar → Ar → Int32 → Option β) : bIX6 (some (z, y)) k = k z y.1 y.2.1 y.2.2.1 y.2.2.2.1 y.2.2.2.2.1 y.2.2.2.2.2.1 y.2.2.2.2.2.2.1 y.2.2.2.2.2.2.2 := rfl
theorem t_phase (hn : n ≤ 60) (h : ∀ j, j < n → a0 j = b0 j) {a2 : Int32} {a3 a4 a5 a6 : Ar} {a7 p v : Int32} {y : SX6} (H : f_X6_readPhase a0 (nI n) a2 a3 a4 a5 a6 a7 p = some (v, y)) : ∃ c2, (∃ a4' a5' a6', y = (a0, nI n, c2, a3, a4', a5', a6', a7)) ∧ ∀ b3 b4 b5 b6, ∃ b4' b5' b6', f_X6_readPhase b0 (nI n) a2 b3 b4 b5 b6 a7 p = some (v, (b0, nI n, c2, b3, b4', b5', b6', a7)) := by
  unfold f_X6_readPhase at H
  by_cases c1 : nI n ≤ a2
  · rw [if_pos c1] at H
    cases H
    exact ⟨a2, ⟨_, _, _, rfl⟩, fun b3 b4 b5 b6 => ⟨_, _, _, by unfold f_X6_readPhase; rw [if_pos c1]⟩⟩
  · rw [if_neg c1] at H
    obtain ⟨g, H⟩ := gd H
    have e := h _ (t_idx hn c1 g)
    obtain ⟨r4, h4, H⟩ := bd H
    by_cases c2 : r4 = 0
    · rw [if_pos c2] at H
      cases H
      exact ⟨a2, ⟨_, _, _, rfl⟩, fun b3 b4 b5 b6 => ⟨_, _, _, by unfold f_X6_readPhase; rw [if_neg c1, if_neg g, ← e, h4, Option.bind_some, if_pos c2]⟩⟩
    · rw [if_neg c2] at H
      obtain ⟨-, H⟩ := gd H
      obtain ⟨g2, H⟩ := gd H
      obtain ⟨r10, d0, d1, d2, d3, d4, d5, d6, d7, h10, H⟩ := bIX6_inv H
      obtain ⟨c9, e9, f9⟩ := t_sign hn h h10
      cases e9
      by_cases c3 : r10 = 0
      · rw [if_pos c3] at H
        cases H
        exact ⟨_, ⟨_, _, _, rfl⟩, fun b3 b4 b5 b6 => ⟨_, _, _, by unfold f_X6_readPhase; rw [if_neg c1, if_neg g, ← e, h4, Option.bind_some, if_neg c2, if_neg g, if_neg g2, f9, bIX6_some, if_pos c3]⟩⟩
      · rw [if_neg c3] at H
        obtain ⟨r14, d0, d1, d2, d3, d4, d5, d6, d7, h14, H⟩ := bIX6_inv H
        obtain ⟨c13, e13, f13⟩ := t_num hn h h14
        cases e13
        obtain ⟨g3, H⟩ := gd H
        obtain ⟨g4, H⟩ := gd H
        have u1 : ∀ (z : Ar), upd z p.toNatClampNeg r14 p.toNatClampNeg = r14 := fun z => pk_us
        by_cases c4 : r14 = -1
        · rw [u1, if_pos c4] at H
          cases H
          exact ⟨_, ⟨_, _, _, rfl⟩, fun b3 b4 b5 b6 => ⟨_, _, _, by unfold f_X6_readPhase; rw [if_neg c1, if_neg g, ← e, h4, Option.bind_some, if_neg c2, if_neg g, if_neg g2, f9, bIX6_some, if_neg c3, f13, bIX6_some, if_neg g3, if_neg g4, u1, if_pos c4]⟩⟩
        · rw [u1, if_neg c4] at H
          obtain ⟨r20, d0, d1, d2, d3, d4, d5, d6, d7, h20, H⟩ := bIX6_inv H
          obtain ⟨c19, e19, f19⟩ := t_sign hn h h20
          cases e19
          by_cases c5 : r20 = 0
          · rw [if_pos c5] at H
            cases H
            exact ⟨_, ⟨_, _, _, rfl⟩, fun b3 b4 b5 b6 => ⟨_, _, _, by unfold f_X6_readPhase; rw [if_neg c1, if_neg g, ← e, h4, Option.bind_some, if_neg c2, if_neg g, if_neg g2, f9, bIX6_some, if_neg c3, f13, bIX6_some, if_neg g3, if_neg g4, u1, if_neg c4, f19, bIX6_some, if_pos c5]⟩⟩
          · rw [if_neg c5] at H
            obtain ⟨r24, d0, d1, d2, d3, d4, d5, d6, d7, h24, H⟩ := bIX6_inv H
            obtain ⟨c23, e23, f23⟩ := t_num hn h h24
            cases e23
            obtain ⟨g5, H⟩ := gd H
            obtain ⟨g6, H⟩ := gd H
            have u2 : ∀ (z : Ar), upd z p.toNatClampNeg r24 p.toNatClampNeg = r24 := fun z => pk_us
            by_cases c6 : r24 = -1
            · rw [u2, if_pos c6] at H
              cases H
              exact ⟨_, ⟨_, _, _, rfl⟩, fun b3 b4 b5 b6 => ⟨_, _, _, by unfold f_X6_readPhase; rw [if_neg c1, if_neg g, ← e, h4, Option.bind_some, if_neg c2, if_neg g, if_neg g2, f9, bIX6_some, if_neg c3, f13, bIX6_some, if_neg g3, if_neg g4, u1, if_neg c4, f19, bIX6_some, if_neg c5, f23, bIX6_some, if_neg g5, if_neg g6, u2, if_pos c6]⟩⟩
            · rw [u2, if_neg c6] at H
              cases H
              exact ⟨_, ⟨_, _, _, rfl⟩, fun b3 b4 b5 b6 => ⟨_, _, _, by unfold f_X6_readPhase; rw [if_neg c1, if_neg g, ← e, h4, Option.bind_some, if_neg c2, if_neg g, if_neg g2, f9, bIX6_some, if_neg c3, f13, bIX6_some, if_neg g3, if_neg g4, u1, if_neg c4, f19, bIX6_some, if_neg c5, f23, bIX6_some, if_neg g5, if_neg g6, u2, if_neg c6]⟩⟩
theorem t_89 (hn : n ≤ 60) (h : ∀ j, j < n → a0 j = b0 j) {a2 : Int32} {a3 a4 a5 a6 : Ar} {a7 p v : Int32} {y : SX6} (H : f_X6_readCommand_89 p a0 (nI n) a2 a3 a4 a5 a6 a7 = some (v, y)) : ∃ c2, (∃ a5', y = (a0, nI n, c2, a3, a4, a5', a6, a7)) ∧ ∀ b3 b4 b5 b6, ∃ b5', f_X6_readCommand_89 p b0 (nI n) a2 b3 b4 b5 b6 a7 = some (v, (b0, nI n, c2, b3, b4, b5', b6, a7)) := by
  unfold f_X6_readCommand_89 at H
  obtain ⟨r3, d0, d1, d2, d3, d4, d5, d6, d7, h3, H⟩ := bIX6_inv H
  obtain ⟨c, e3, f3⟩ := t_num hn h h3
  cases e3
  obtain ⟨g3, H⟩ := gd H
  obtain ⟨g4, H⟩ := gd H
  have u1 : ∀ (z : Ar), upd z p.toNatClampNeg r3 p.toNatClampNeg = r3 := fun z => pk_us
  by_cases c4 : r3 = -1
  · rw [u1, if_pos c4] at H
    cases H
    exact ⟨_, ⟨_, rfl⟩, fun b3 b4 b5 b6 => ⟨_, by unfold f_X6_readCommand_89; rw [f3, bIX6_some, if_neg g3, if_neg g4, u1, if_pos c4]⟩⟩
  · rw [u1, if_neg c4] at H
    cases H
    exact ⟨_, ⟨_, rfl⟩, fun b3 b4 b5 b6 => ⟨_, by unfold f_X6_readCommand_89; rw [f3, bIX6_some, if_neg g3, if_neg g4, u1, if_neg c4]⟩⟩
theorem t_cmd (hn : n ≤ 60) (h : ∀ j, j < n → a0 j = b0 j) {a2 : Int32} {a3 a4 a5 a6 : Ar} {a7 p v : Int32} {y : SX6} (H : f_X6_readCommand a0 (nI n) a2 a3 a4 a5 a6 a7 p = some (v, y)) : ∃ c2, (∃ a3' a4' a5' a6', y = (a0, nI n, c2, a3', a4', a5', a6', a7)) ∧ ∀ b3 b4 b5 b6, ∃ b3' b4' b5' b6', f_X6_readCommand b0 (nI n) a2 b3 b4 b5 b6 a7 p = some (v, (b0, nI n, c2, b3', b4', b5', b6', a7)) := by
  unfold f_X6_readCommand at H
  obtain ⟨r9, d0, d1, d2, d3, d4, d5, d6, d7, h9, H⟩ := bIX6_inv H
  obtain ⟨c, e9, f9⟩ := t_word hn h h9
  cases e9
  obtain ⟨g, H⟩ := gd H
  by_cases c1 : r9 = -1
  · rw [if_pos c1] at H
    cases H
    exact ⟨_, ⟨_, _, _, _, rfl⟩, fun b3 b4 b5 b6 => ⟨_, _, _, _, by unfold f_X6_readCommand; rw [f9, bIX6_some, if_neg g, if_pos c1]⟩⟩
  · rw [if_neg c1] at H
    by_cases c2 : r9 = 0
    · rw [if_pos c2] at H
      obtain ⟨r15, d0, d1, d2, d3, d4, d5, d6, d7, h15, H⟩ := bIX6_inv H
      obtain ⟨c9, ⟨a4', a5', a6', e15⟩, f15⟩ := t_phase hn h h15
      cases e15
      obtain ⟨g2, H⟩ := gd H
      cases H
      refine ⟨_, ⟨_, _, _, _, rfl⟩, fun b3 b4 b5 b6 => ?_⟩
      obtain ⟨b4', b5', b6', f16⟩ := f15 (upd b3 p.toNatClampNeg r9) b4 b5 b6
      exact ⟨_, _, _, _, by unfold f_X6_readCommand; rw [f9, bIX6_some, if_neg g, if_neg c1, if_pos c2, f16, bIX6_some, if_neg g2]⟩
    · rw [if_neg c2] at H
      by_cases c3 : r9 = 1
      · rw [if_pos c3] at H
        obtain ⟨r20, d0, d1, d2, d3, d4, d5, d6, d7, h20, H⟩ := bIX6_inv H
        obtain ⟨c9, e20, f20⟩ := t_num hn h h20
        cases e20
        obtain ⟨g3, H⟩ := gd H
        obtain ⟨g4, H⟩ := gd H
        have u1 : ∀ (z : Ar), upd z p.toNatClampNeg r20 p.toNatClampNeg = r20 := fun z => pk_us
        by_cases c4 : r20 = -1
        · rw [u1, if_pos c4] at H
          cases H
          exact ⟨_, ⟨_, _, _, _, rfl⟩, fun b3 b4 b5 b6 => ⟨_, _, _, _, by unfold f_X6_readCommand; rw [f9, bIX6_some, if_neg g, if_neg c1, if_neg c2, if_pos c3, f20, bIX6_some, if_neg g3, if_neg g4, u1, if_pos c4]⟩⟩
        · rw [u1, if_neg c4] at H
          cases H
          exact ⟨_, ⟨_, _, _, _, rfl⟩, fun b3 b4 b5 b6 => ⟨_, _, _, _, by unfold f_X6_readCommand; rw [f9, bIX6_some, if_neg g, if_neg c1, if_neg c2, if_pos c3, f20, bIX6_some, if_neg g3, if_neg g4, u1, if_neg c4]⟩⟩
      · rw [if_neg c3] at H
        by_cases c5 : r9 = 3
        · rw [if_pos c5] at H
          cases H
          exact ⟨_, ⟨_, _, _, _, rfl⟩, fun b3 b4 b5 b6 => ⟨_, _, _, _, by unfold f_X6_readCommand; rw [f9, bIX6_some, if_neg g, if_neg c1, if_neg c2, if_neg c3, if_pos c5]⟩⟩
        · rw [if_neg c5] at H
          by_cases c6 : r9 = 4
          · rw [if_pos c6] at H
            cases H
            exact ⟨_, ⟨_, _, _, _, rfl⟩, fun b3 b4 b5 b6 => ⟨_, _, _, _, by unfold f_X6_readCommand; rw [f9, bIX6_some, if_neg g, if_neg c1, if_neg c2, if_neg c3, if_neg c5, if_pos c6]⟩⟩
          · rw [if_neg c6] at H
            obtain ⟨c9, ⟨a5', e15⟩, f15⟩ := t_89 hn h H
            cases e15
            refine ⟨_, ⟨_, _, _, _, rfl⟩, fun b3 b4 b5 b6 => ?_⟩
            obtain ⟨b5', f16⟩ := f15 (upd b3 p.toNatClampNeg r9) b4 b5 b6
            exact ⟨_, _, _, _, by unfold f_X6_readCommand; rw [f9, bIX6_some, if_neg g, if_neg c1, if_neg c2, if_neg c3, if_neg c5, if_neg c6]; exact f16⟩
theorem t_cmds (hn : n ≤ 60) (h : ∀ j, j < n → a0 j = b0 j) {v : Int32} {y : SX6} : ∀ (fu : Nat) (x1 a2 : Int32) (a3 a4 a5 a6 : Ar) (a7 : Int32), f_X6_readCommands_12 fu x1 a0 (nI n) a2 a3 a4 a5 a6 a7 = some (v, y) → ∀ b3 b4 b5 b6, ∃ b3' b4' b5' b6' c2, f_X6_readCommands_12 fu x1 b0 (nI n) a2 b3 b4 b5 b6 a7 = some (v, (b0, nI n, c2, b3', b4', b5', b6', y.2.2.2.2.2.2.2)) := by
  intro fu
  induction fu with
  | zero =>
    intro x1 a2 a3 a4 a5 a6 a7 H
    rw [f_X6_readCommands_12] at H
    cases H
  | succ fu ih =>
    intro x1 a2 a3 a4 a5 a6 a7 H b3 b4 b5 b6
    rw [f_X6_readCommands_12] at H
    by_cases c0 : 13 ≤ x1
    · rw [if_pos c0] at H
      cases H
      exact ⟨_, _, _, _, _, by rw [f_X6_readCommands_12, if_pos c0]⟩
    · rw [if_neg c0] at H
      obtain ⟨r4, d0, d1, d2, d3, d4, d5, d6, d7, h4, H⟩ := bIX6_inv H
      obtain ⟨c, ⟨a3', a4', a5', a6', e4⟩, f4⟩ := t_cmd hn h h4
      cases e4
      obtain ⟨b3', b4', b5', b6', f5⟩ := f4 b3 b4 b5 b6
      by_cases c1 : r4 = 0
      · rw [if_pos c1] at H
        cases H
        exact ⟨_, _, _, _, _, by rw [f_X6_readCommands_12, if_neg c0, f5, bIX6_some, if_pos c1]⟩
      · rw [if_neg c1] at H
        obtain ⟨r8, d0, d1, d2, d3, d4, d5, d6, d7, h8, H⟩ := bIX6_inv H
        obtain ⟨c9, e8, f8⟩ := t_sign hn h h8
        cases e8
        by_cases c2 : r8 = 0
        · rw [if_pos c2] at H
          by_cases c3 : d2 = nI n
          · rw [if_pos c3] at H
            cases H
            exact ⟨_, _, _, _, _, by rw [f_X6_readCommands_12, if_neg c0, f5, bIX6_some, if_neg c1, f8, bIX6_some, if_pos c2, if_pos c3]⟩
          · rw [if_neg c3] at H
            cases H
            exact ⟨_, _, _, _, _, by rw [f_X6_readCommands_12, if_neg c0, f5, bIX6_some, if_neg c1, f8, bIX6_some, if_pos c2, if_neg c3]⟩
        · rw [if_neg c2] at H
          obtain ⟨k3, k4, k5, k6, k2, f9⟩ := ih _ _ _ _ _ _ _ H b3' b4' b5' b6'
          exact ⟨k3, k4, k5, k6, k2, by rw [f_X6_readCommands_12, if_neg c0, f5, bIX6_some, if_neg c1, f8, bIX6_some, if_neg c2]; exact f9⟩
end TX
