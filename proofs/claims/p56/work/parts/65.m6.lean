/-! the order of pats -/
theorem i_sub {a b : Int32} (ha : -100000 ≤ a.toInt ∧ a.toInt ≤ 100000) (hb : -100000 ≤ b.toInt ∧ b.toInt ≤ 100000) : (a - b).toInt = a.toInt - b.toInt := by
  rw [Int32.toInt_sub, Int.bmod_eq_of_le_mul_two (by omega) (by omega)]
def fZ (t : MT) (i : Nat) : Int := (t.2.2.1 i : Int) - 15 * (t.2.2.2.1 i : Int)
theorem fmI_Z {t : MT} (ho : okT t) {i : Nat} (hi : i < t.2.2.2.2) : (fmI t i).toInt = fZ t i ∧ -150 ≤ fZ t i ∧ fZ t i ≤ 100 := by
  obtain ⟨-, -, -, h1, h2⟩ := ho.2 i hi
  unfold fmI fZ
  rw [show (15 : Int32) * nI (t.2.2.2.1 i) = nI (15 * t.2.2.2.1 i) from pk_mul 15 _, pk_sub_toInt (by omega) (by omega)]
  omega
def bfP (F : Nat → Int) (M : NN) (i j : Nat) : Prop := F j < F i ∨ (F i = F j ∧ (M j < M i ∨ (M i = M j ∧ i < j)))
def bfN (F : Nat → Int) (M : NN) (i j : Nat) : Nat := if F i = F j then (if M i = M j then (if j ≤ i then 0 else 1) else if M i ≤ M j then 0 else 1) else (if F i ≤ F j then 0 else 1)
theorem bfN_1 (F : Nat → Int) (M : NN) (i j : Nat) : bfN F M i j ≤ 1 ∧ (bfN F M i j = 1 ↔ bfP F M i j) := by
  unfold bfN bfP
  split
  · split
    · split <;> constructor <;> omega
    · split <;> constructor <;> omega
  · split <;> constructor <;> omega
theorem bf_tr {F : Nat → Int} {M : NN} {i j k : Nat} (h1 : bfP F M i j) (h2 : bfP F M j k) : bfP F M i k := by
  unfold bfP at *
  omega
theorem bf_tot {F : Nat → Int} {M : NN} {i j : Nat} (h : i ≠ j) : bfP F M i j ∨ bfP F M j i := by
  unfold bfP
  omega
theorem bf_ir {F : Nat → Int} {M : NN} {i : Nat} : ¬ bfP F M i i := by
  unfold bfP
  omega
theorem sU_mo {f g : NN} : ∀ n, (∀ i, i < n → f i ≤ g i) → sU f n ≤ sU g n := by
  intro n
  induction n with
  | zero => intro _; exact Nat.le_refl _
  | succ n ih =>
    intro h
    have h1 := ih fun i hi => h i (Nat.lt_succ_of_lt hi)
    have h2 := h n (Nat.lt_succ_self n)
    show sU f n + f n ≤ sU g n + g n
    omega
theorem sU_lt {f g : NN} : ∀ n, (∀ i, i < n → f i ≤ g i) → (∃ p, p < n ∧ f p < g p) → sU f n < sU g n := by
  intro n
  induction n with
  | zero => intro _ h; obtain ⟨p, h, -⟩ := h; omega
  | succ n ih =>
    intro h hp
    obtain ⟨p, h1, h2⟩ := hp
    have h3 := h n (Nat.lt_succ_self n)
    show sU f n + f n < sU g n + g n
    by_cases he : p = n
    · subst he
      have := sU_mo (f := f) (g := g) p fun i hi => h i (Nat.lt_succ_of_lt hi)
      omega
    · have := ih (fun i hi => h i (Nat.lt_succ_of_lt hi)) ⟨p, by omega, h2⟩
      omega
def rkN (F : Nat → Int) (M : NN) (c j : Nat) : Nat := sU (fun i => bfN F M i j) c
theorem rk_lt {F : Nat → Int} {M : NN} {c p q : Nat} (hp : p < c) (h : bfP F M p q) : rkN F M c p < rkN F M c q := by
  refine sU_lt c (fun i hi => ?_) ⟨p, hp, ?_⟩
  · obtain ⟨a1, a2⟩ := bfN_1 F M i p
    obtain ⟨b1, b2⟩ := bfN_1 F M i q
    by_cases h9 : bfP F M i p
    · have := b2.mpr (bf_tr h9 h)
      omega
    · have : bfN F M i p ≠ 1 := fun h8 => h9 (a2.mp h8)
      omega
  · obtain ⟨a1, a2⟩ := bfN_1 F M p p
    obtain ⟨b1, b2⟩ := bfN_1 F M p q
    have := b2.mpr h
    have : bfN F M p p ≠ 1 := fun h8 => bf_ir (a2.mp h8)
    show bfN F M p p < bfN F M p q
    omega
theorem sU_one : ∀ c, sU (fun _ => 1) c = c := by
  intro c
  induction c with
  | zero => rfl
  | succ c ih =>
    show sU (fun _ => 1) c + 1 = c + 1
    rw [ih]
theorem rk_c {F : Nat → Int} {M : NN} {c q : Nat} (hq : q < c) : rkN F M c q < c := by
  have h := sU_lt (f := fun i => bfN F M i q) (g := fun _ => 1) c (fun i _ => (bfN_1 F M i q).1) ⟨q, hq, by
    have h1 := bfN_1 F M q q
    have : bfN F M q q ≠ 1 := fun h8 => bf_ir (h1.2.mp h8)
    show bfN F M q q < 1
    omega⟩
  rw [sU_one] at h
  exact h
theorem rk_inj {F : Nat → Int} {M : NN} {c p q : Nat} (hp : p < c) (hq : q < c) (h : rkN F M c p = rkN F M c q) : p = q := by
  by_cases he : p = q
  · exact he
  · rcases bf_tot (F := F) (M := M) he with h1 | h1
    · have := rk_lt hp h1; omega
    · have := rk_lt hq h1; omega
theorem pigeon : ∀ (c : Nat) (f : NN), (∀ i, i < c → f i < c) → (∀ i j, i < c → j < c → f i = f j → i = j) → ∀ k, k < c → ∃ i, i < c ∧ f i = k := by
  intro c
  induction c with
  | zero => intro f _ _ k hk; omega
  | succ c ih =>
    intro f h1 h2 k hk
    have ha := h1 c (Nat.lt_succ_self c)
    have g1 : ∀ i, i < c → (if f i = c then f c else f i) < c := by
      intro i hi
      have h3 := h1 i (by omega)
      split
      · rename_i h4
        have : f c ≠ c := fun h5 => by have := h2 i c (by omega) (by omega) (h4.trans h5.symm); omega
        omega
      · omega
    have g2 : ∀ i j, i < c → j < c → (if f i = c then f c else f i) = (if f j = c then f c else f j) → i = j := by
      intro i j hi hj h
      by_cases hi1 : f i = c
      · by_cases hj1 : f j = c
        · exact h2 i j (by omega) (by omega) (hi1.trans hj1.symm)
        · rw [if_pos hi1, if_neg hj1] at h
          have := h2 c j (by omega) (by omega) h
          omega
      · by_cases hj1 : f j = c
        · rw [if_neg hi1, if_pos hj1] at h
          have := h2 i c (by omega) (by omega) h
          omega
        · rw [if_neg hi1, if_neg hj1] at h
          exact h2 i j (by omega) (by omega) h
    have key := ih (fun i => if f i = c then f c else f i) g1 g2
    by_cases hk1 : f c = k
    · exact ⟨c, by omega, hk1⟩
    · by_cases hkc : k = c
      · obtain ⟨i, hi, h⟩ := key (f c) (by omega)
        have h : (if f i = c then f c else f i) = f c := h
        by_cases hi1 : f i = c
        · exact ⟨i, by omega, by omega⟩
        · rw [if_neg hi1] at h
          have := h2 i c (by omega) (by omega) h
          omega
      · obtain ⟨i, hi, h⟩ := key k (by omega)
        have h : (if f i = c then f c else f i) = k := h
        by_cases hi1 : f i = c
        · rw [if_pos hi1] at h
          omega
        · rw [if_neg hi1] at h
          exact ⟨i, by omega, h⟩
section RR
variable {x t : MB} {r : R8}
theorem h_before {y : MT} (ho : okT y) {i j : Nat} (hi : i < y.2.2.2.2) (hj : j < y.2.2.2.2) : f_X4_goesBefore (eF y.1) (eF y.2.1) (eF y.2.2.1) (eF y.2.2.2.1) (nI y.2.2.2.2) (nI i) (nI j) = some (if bfN (fZ y) y.1 i j = 0 then 0 else 1) := by
  have h12 := ho.1
  obtain ⟨a1, a2, -⟩ := ho.2 i hi
  obtain ⟨b1, b2, -⟩ := ho.2 j hj
  obtain ⟨e1, -⟩ := fmI_Z ho hi
  obtain ⟨e2, -⟩ := fmI_Z ho hj
  unfold f_X4_goesBefore
  rw [h_fm hi h12, h_fm hj h12, h_mass hi h12, h_mass hj h12]
  simp only [Option.bind_some]
  have k1 : fmI y i = fmI y j ↔ fZ y i = fZ y j := by rw [← e1, ← e2]; exact Int32.toInt_inj.symm
  have k2 : fmI y i ≤ fmI y j ↔ fZ y i ≤ fZ y j := by rw [← e1, ← e2]; exact Int32.le_iff_toInt_le
  unfold bfN
  by_cases h1 : fZ y i = fZ y j
  · rw [if_pos (k1.mpr h1), if_pos h1]
    by_cases h2 : y.1 i = y.1 j
    · rw [if_pos (by rw [h2]), if_pos h2]
      by_cases h3 : j ≤ i
      · rw [if_pos (nI_le h3 (by omega)), if_pos h3]
        rfl
      · rw [if_neg (nI_ge (by omega) (by omega)), if_neg h3]
        rfl
    · rw [if_neg (fun h => h2 ((nI_eq (by omega) (by omega)).mp h)), if_neg h2]
      by_cases h3 : y.1 i ≤ y.1 j
      · rw [if_pos (nI_le h3 (by omega)), if_pos h3]
        rfl
      · rw [if_neg (nI_ge (by omega) (by omega)), if_neg h3]
        rfl
  · rw [if_neg fun h => h1 (k1.mp h), if_neg h1]
    by_cases h3 : fZ y i ≤ fZ y j
    · rw [if_pos (k2.mpr h3), if_pos h3]
      rfl
    · rw [if_neg fun h => h3 (k2.mp h), if_neg h3]
      rfl
theorem h_rank {y : MT} (ho : okT y) {j : Nat} (hj : j < y.2.2.2.2) : f_X4_rankOf (eF y.1) (eF y.2.1) (eF y.2.2.1) (eF y.2.2.2.1) (nI y.2.2.2.2) (nI j) = some (nI (rkN (fZ y) y.1 y.2.2.2.2 j)) := by
  have h12 := ho.1
  have loop : ∀ (fu i : Nat), y.2.2.2.2 < fu + i → i ≤ y.2.2.2.2 → f_X4_rankOf_4 (eF y.1) (eF y.2.1) (eF y.2.2.1) (eF y.2.2.2.1) (nI y.2.2.2.2) (nI j) fu (nI (sU (fun i => bfN (fZ y) y.1 i j) i)) (nI i) = some (nI (rkN (fZ y) y.1 y.2.2.2.2 j)) := by
    intro fu
    induction fu with
    | zero => intro i h1 h2; omega
    | succ fu ih =>
      intro i h1 h2
      rw [f_X4_rankOf_4]
      by_cases h : y.2.2.2.2 ≤ i
      · rw [if_pos (nI_le h (by omega)), show i = y.2.2.2.2 by omega]
        rfl
      · rw [if_neg (nI_ge (by omega) (by omega)), h_before ho (by omega) hj]
        simp only [Option.bind_some]
        have h9 := ih (i + 1) (by omega) (by omega)
        have e : sU (fun i => bfN (fZ y) y.1 i j) (i + 1) = sU (fun i => bfN (fZ y) y.1 i j) i + bfN (fZ y) y.1 i j := rfl
        rw [e] at h9
        have hb := (bfN_1 (fZ y) y.1 i j).1
        by_cases hz : bfN (fZ y) y.1 i j = 0
        · rw [if_pos hz, if_pos rfl, nI_1]
          rw [hz, Nat.add_zero] at h9
          exact h9
        · rw [if_neg hz, if_neg (by decide), nI_1, nI_1]
          rw [show bfN (fZ y) y.1 i j = 1 by omega] at h9
          exact h9
  have h := loop 300 0 (by omega) (by omega)
  exact h
theorem r_rank_hit (ho : okB x) {q k : Nat} (hq : q < nQ x) (hk : rkN (fZ x.2.2.1) x.2.2.1.1 (nQ x) q = k) : f_L_patByFirmness (sS x t r) (nI k) = some (nI q, sS x t r) := by
  have h12 : nQ x ≤ 12 := ho.2.2.1.1
  have hkc := rk_c (F := fZ x.2.2.1) (M := x.2.2.1.1) hq
  have loop : ∀ (fu i : Nat), q < fu + i → i ≤ q → f_X4_patAtRank_2 (eF x.2.2.1.1) (eF x.2.2.1.2.1) (eF x.2.2.1.2.2.1) (eF x.2.2.1.2.2.2.1) (nI x.2.2.1.2.2.2.2) (nI k) fu (nI i) = some (nI q) := by
    intro fu
    induction fu with
    | zero => intro i h1 h2; omega
    | succ fu ih =>
      intro i h1 h2
      rw [f_X4_patAtRank_2, if_neg (show ¬ nI x.2.2.1.2.2.2.2 ≤ nI i from nI_ge (b := nQ x) (by omega) (by omega)), h_rank ho.2.2.1 (show i < nQ x by omega)]
      simp only [Option.bind_some]
      have hki := rk_c (F := fZ x.2.2.1) (M := x.2.2.1.1) (show i < nQ x by omega)
      by_cases he : i = q
      · subst he
        rw [if_pos (by rw [hk])]
      · rw [if_neg, nI_1, ih (i + 1) (by omega) (by omega)]
        intro h9
        have h8 : rkN (fZ x.2.2.1) x.2.2.1.1 (nQ x) i = k := (nI_eq (by omega) (by omega)).mp h9
        exact he (rk_inj (show i < nQ x by omega) hq (h8.trans hk.symm))
  have h := loop 300 0 (by omega) (by omega)
  unfold f_L_patByFirmness g_X7_patByFirmness f_X7_patByFirmness
  rw [show g_X4_patAtRank (sS x t r).1.2.2.1 (nI k) = some (nI q) from h]
  simp only [Option.bind_some]
  rw [if_neg]
  · rfl
  · intro h9
    exact absurd (h9 ▸ nI_pos (n := q) (by omega)) (by decide)
theorem r_rank_none (ho : okB x) : f_L_patByFirmness (sS x t r) (nI (nQ x)) = some (-1000, sS x t r) := by
  have h12 : nQ x ≤ 12 := ho.2.2.1.1
  have loop : ∀ (fu i : Nat), nQ x < fu + i → i ≤ nQ x → f_X4_patAtRank_2 (eF x.2.2.1.1) (eF x.2.2.1.2.1) (eF x.2.2.1.2.2.1) (eF x.2.2.1.2.2.2.1) (nI x.2.2.1.2.2.2.2) (nI (nQ x)) fu (nI i) = some (-1) := by
    intro fu
    induction fu with
    | zero => intro i h1 h2; omega
    | succ fu ih =>
      intro i h1 h2
      rw [f_X4_patAtRank_2]
      by_cases h : nQ x ≤ i
      · rw [if_pos (show nI x.2.2.1.2.2.2.2 ≤ nI i from nI_le h (by omega))]
      · have hki := rk_c (F := fZ x.2.2.1) (M := x.2.2.1.1) (show i < nQ x by omega)
        rw [if_neg (show ¬ nI x.2.2.1.2.2.2.2 ≤ nI i from nI_ge (b := nQ x) (by omega) (by omega)), h_rank ho.2.2.1 (show i < nQ x by omega)]
        simp only [Option.bind_some]
        rw [if_neg, nI_1, ih (i + 1) (by omega) (by omega)]
        intro h9
        have h8 : rkN (fZ x.2.2.1) x.2.2.1.1 (nQ x) i = nQ x := (nI_eq (show rkN (fZ x.2.2.1) x.2.2.1.1 (nQ x) i < 2 ^ 31 by omega) (by omega)).mp h9
        omega
  have h := loop 300 0 (by omega) (by omega)
  unfold f_L_patByFirmness g_X7_patByFirmness f_X7_patByFirmness
  rw [show g_X4_patAtRank (sS x t r).1.2.2.1 (nI (nQ x)) = some (-1) from h]
  rfl
end RR
