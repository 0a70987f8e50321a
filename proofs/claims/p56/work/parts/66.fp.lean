/-! doubles and floats: a quotient of whole numbers by 1 .. 12 is a number -/
def fD (f : FP.Core.Fmt) (D : FP.Core.Datum) : Prop := match D with
  | .nan => False
  | .inf _ => True
  | .fin _ c q => c < 2 ^ f.p ∧ f.qmin ≤ q ∧ q ≤ f.qmax
theorem fD_bound {f : FP.Core.Fmt} {s : Bool} {c : Nat} {q : Int} (h1 : c < 2 ^ f.p) (h2 : f.qmin ≤ q) : fD f (FP.Core.bound f s c q) := by
  unfold FP.Core.bound
  split
  · rename_i h; exact ⟨h1, h2, h⟩
  · trivial
theorem fD_round {f : FP.Core.Fmt} (hp : f.tails < 2 ^ f.p) (hq : f.qmin ≤ f.qmax) (s : Bool) (n d : Nat) (e : Int) : fD f (FP.Core.roundRatio f s n d e) := by
  unfold FP.Core.roundRatio
  split
  · exact ⟨Nat.two_pow_pos _, Int.le_refl _, hq⟩
  · unfold FP.Core.roundAt FP.Core.settle
    have h : f.qmin ≤ FP.Core.quantum f n d e := by
      unfold FP.Core.quantum
      exact Int.le_max_left _ _
    split
    · rename_i h1; exact fD_bound h1 h
    · exact fD_bound hp (by omega)
theorem fD_round2 {f : FP.Core.Fmt} (hp : f.tails < 2 ^ f.p) (hq : f.qmin ≤ f.qmax) (i : Int) : fD f (FP.Core.round f (FP.Core.ofInt i)) := fD_round hp hq _ _ _ _
theorem fD_quot {f : FP.Core.Fmt} (hp : f.tails < 2 ^ f.p) (hq : f.qmin ≤ f.qmax) {D : FP.Core.Datum} (hD : fD f D) {t : Bool} {d : Nat} {r : Int} (hd : d ≠ 0) : fD f (FP.Core.quotient f D (.fin t d r)) := by
  cases D with
  | nan => exact hD.elim
  | inf s => trivial
  | fin s c q =>
    show fD f (if d = 0 then _ else FP.Core.roundRatio f (s != t) c d (q - r))
    rw [if_neg hd]
    exact fD_round hp hq _ _ _ _
/-- the bits of a datum that is a number -/
theorem bits64 {D : FP.Core.Datum} (h : fD FP.Core.b64 D) : ∃ (s : Bool) (e t : Nat), FP.Core.encode FP.Core.b64 D = (s.toNat * 2048 + e) * 4503599627370496 + t ∧ t < 4503599627370496 ∧ (e ≤ 2046 ∨ (e = 2047 ∧ t = 0)) := by
  have h1 : FP.Core.b64.tails = 4503599627370496 := by decide
  have h2 : FP.Core.b64.exps = 2048 := by decide
  have h3 : FP.Core.b64.qmin = -1074 := by decide
  have h4 : FP.Core.b64.qmax = 971 := by decide
  cases D with
  | nan => exact h.elim
  | inf s => exact ⟨s, 2047, 0, by simp only [FP.Core.encode, FP.Core.assemble, h1, h2], by omega, Or.inr ⟨rfl, rfl⟩⟩
  | fin s c q =>
    obtain ⟨g1, g2, g3⟩ := h
    have g1 : c < 9007199254740992 := g1
    rw [h3] at g2
    rw [h4] at g3
    unfold FP.Core.encode
    simp only [h1, h3]
    split
    · rename_i h5
      exact ⟨s, 0, c, by simp only [FP.Core.assemble, h1, h2], h5, Or.inl (by omega)⟩
    · rename_i h5
      exact ⟨s, (q - (-1074)).toNat + 1, c - 4503599627370496, by simp only [FP.Core.assemble, h1, h2], by omega, Or.inl (by omega)⟩
theorem bits32 {D : FP.Core.Datum} (h : fD FP.Core.b32 D) : ∃ (s : Bool) (e t : Nat), FP.Core.encode FP.Core.b32 D = (s.toNat * 256 + e) * 8388608 + t ∧ t < 8388608 ∧ (e ≤ 254 ∨ (e = 255 ∧ t = 0)) := by
  have h1 : FP.Core.b32.tails = 8388608 := by decide
  have h2 : FP.Core.b32.exps = 256 := by decide
  have h3 : FP.Core.b32.qmin = -149 := by decide
  have h4 : FP.Core.b32.qmax = 104 := by decide
  cases D with
  | nan => exact h.elim
  | inf s => exact ⟨s, 255, 0, by simp only [FP.Core.encode, FP.Core.assemble, h1, h2], by omega, Or.inr ⟨rfl, rfl⟩⟩
  | fin s c q =>
    obtain ⟨g1, g2, g3⟩ := h
    have g1 : c < 16777216 := g1
    rw [h3] at g2
    rw [h4] at g3
    unfold FP.Core.encode
    simp only [h1, h3]
    split
    · rename_i h5
      exact ⟨s, 0, c, by simp only [FP.Core.assemble, h1, h2], h5, Or.inl (by omega)⟩
    · rename_i h5
      exact ⟨s, (q - (-149)).toNat + 1, c - 8388608, by simp only [FP.Core.assemble, h1, h2], by omega, Or.inl (by omega)⟩
def num64 (v : UInt64) : Prop := v &&& 0x7fffffffffffffff ≤ 0x7ff0000000000000 ∧ FP.Core.decode FP.Core.b64 v.toNat ≠ .nan
def num32 (v : UInt32) : Prop := v &&& 0x7fffffff ≤ 0x7f800000 ∧ FP.Core.decode FP.Core.b32 v.toNat ≠ .nan
theorem num64_of {D : FP.Core.Datum} (h : fD FP.Core.b64 D) : num64 (UInt64.ofNat (FP.Core.encode FP.Core.b64 D)) := by
  obtain ⟨s, e, t, h1, h2, h3⟩ := bits64 h
  rw [h1]
  have hs : s.toNat ≤ 1 := by cases s <;> decide
  have hn : (s.toNat * 2048 + e) * 4503599627370496 + t < 2 ^ 64 := by omega
  have ht : (UInt64.ofNat ((s.toNat * 2048 + e) * 4503599627370496 + t)).toNat = (s.toNat * 2048 + e) * 4503599627370496 + t := UInt64.toNat_ofNat_of_lt' hn
  have g1 : FP.Core.b64.tails = 4503599627370496 := by decide
  have g2 : FP.Core.b64.exps = 2048 := by decide
  refine ⟨?_, ?_⟩
  · rw [UInt64.le_iff_toNat_le, UInt64.toNat_and, ht]
    show ((s.toNat * 2048 + e) * 4503599627370496 + t) &&& (2 ^ 63 - 1) ≤ 9218868437227405312
    rw [Nat.and_two_pow_sub_one_eq_mod]
    omega
  · rw [ht]
    unfold FP.Core.decode FP.Core.fieldE FP.Core.fieldT
    rw [g1, g2]
    have e1 : ((s.toNat * 2048 + e) * 4503599627370496 + t) / 4503599627370496 = s.toNat * 2048 + e := by omega
    have e2 : ((s.toNat * 2048 + e) * 4503599627370496 + t) % 4503599627370496 = t := by omega
    have e3 : (s.toNat * 2048 + e) % 2048 = e := by
      rw [Nat.add_comm, Nat.add_mul_mod_self_right]
      exact Nat.mod_eq_of_lt (by omega)
    rw [e1, e2, e3]
    split
    · rename_i h4
      rw [if_pos (by omega)]
      exact fun h => by cases h
    · split <;> exact fun h => by cases h
theorem num32_of {D : FP.Core.Datum} (h : fD FP.Core.b32 D) : num32 (UInt32.ofNat (FP.Core.encode FP.Core.b32 D)) := by
  obtain ⟨s, e, t, h1, h2, h3⟩ := bits32 h
  rw [h1]
  have hs : s.toNat ≤ 1 := by cases s <;> decide
  have hn : (s.toNat * 256 + e) * 8388608 + t < 2 ^ 32 := by omega
  have ht : (UInt32.ofNat ((s.toNat * 256 + e) * 8388608 + t)).toNat = (s.toNat * 256 + e) * 8388608 + t := UInt32.toNat_ofNat_of_lt' hn
  have g1 : FP.Core.b32.tails = 8388608 := by decide
  have g2 : FP.Core.b32.exps = 256 := by decide
  refine ⟨?_, ?_⟩
  · rw [UInt32.le_iff_toNat_le, UInt32.toNat_and, ht]
    show ((s.toNat * 256 + e) * 8388608 + t) &&& (2 ^ 31 - 1) ≤ 2139095040
    rw [Nat.and_two_pow_sub_one_eq_mod]
    omega
  · rw [ht]
    unfold FP.Core.decode FP.Core.fieldE FP.Core.fieldT
    rw [g1, g2]
    have e1 : ((s.toNat * 256 + e) * 8388608 + t) / 8388608 = s.toNat * 256 + e := by omega
    have e2 : ((s.toNat * 256 + e) * 8388608 + t) % 8388608 = t := by omega
    have e3 : (s.toNat * 256 + e) % 256 = e := by
      rw [Nat.add_comm, Nat.add_mul_mod_self_right]
      exact Nat.mod_eq_of_lt (by omega)
    rw [e1, e2, e3]
    split
    · rename_i h4
      rw [if_pos (by omega)]
      exact fun h => by cases h
    · split <;> exact fun h => by cases h
/-- a number's datum is a number's -/
theorem fD_dec64 (n : Nat) (h : FP.Core.decode FP.Core.b64 n ≠ .nan) : fD FP.Core.b64 (FP.Core.decode FP.Core.b64 n) := by
  have g1 : FP.Core.b64.tails = 4503599627370496 := by decide
  have g2 : FP.Core.b64.exps = 2048 := by decide
  have h3 : FP.Core.b64.qmin = -1074 := by decide
  have h4 : FP.Core.b64.qmax = 971 := by decide
  unfold FP.Core.decode FP.Core.fieldE FP.Core.fieldT at h ⊢
  rw [g1, g2] at h ⊢
  split
  · rename_i h5
    rw [if_pos h5] at h
    split
    · trivial
    · rename_i h6
      exact absurd (if_neg h6) h
  · rename_i h5
    split
    · exact ⟨show n % 4503599627370496 < 9007199254740992 by omega, Int.le_refl _, by decide⟩
    · refine ⟨show 4503599627370496 + n % 4503599627370496 < 9007199254740992 by omega, by omega, ?_⟩
      rw [h3, h4]
      omega
theorem fD_dec32 (n : Nat) (h : FP.Core.decode FP.Core.b32 n ≠ .nan) : fD FP.Core.b32 (FP.Core.decode FP.Core.b32 n) := by
  have g1 : FP.Core.b32.tails = 8388608 := by decide
  have g2 : FP.Core.b32.exps = 256 := by decide
  have h3 : FP.Core.b32.qmin = -149 := by decide
  have h4 : FP.Core.b32.qmax = 104 := by decide
  unfold FP.Core.decode FP.Core.fieldE FP.Core.fieldT at h ⊢
  rw [g1, g2] at h ⊢
  split
  · rename_i h5
    rw [if_pos h5] at h
    split
    · trivial
    · rename_i h6
      exact absurd (if_neg h6) h
  · rename_i h5
    split
    · exact ⟨show n % 8388608 < 16777216 by omega, Int.le_refl _, by decide⟩
    · refine ⟨show 8388608 + n % 8388608 < 16777216 by omega, by omega, ?_⟩
      rw [h3, h4]
      omega
theorem ord_self {D : FP.Core.Datum} (h : D ≠ .nan) : FP.Core.order D D = some .eq := by
  cases D with
  | nan => exact absurd rfl h
  | inf s => cases s <;> rfl
  | fin s c q =>
    show some (compare _ _) = some Ordering.eq
    rw [Int.compare_eq_eq.mpr rfl]
theorem cmp64 {v : UInt64} (h : num64 v) : Op.cmpValue (FP.dcmp v v) .l = 0 := by
  have e : FP.dcmp v v = some .eq := ord_self h.2
  rw [e]
  rfl
theorem cmp32 {v : UInt32} (h : num32 v) : Op.cmpValue (FP.fcmp v v) .l = 0 := by
  have e : FP.fcmp v v = some .eq := ord_self h.2
  rw [e]
  rfl
theorem den64 : ∀ c, 1 ≤ c → c ≤ 12 → ∃ t d r, FP.Core.decode FP.Core.b64 (FP.i2d (nI c)).toNat = .fin t d r ∧ d ≠ 0 := by
  intro c h1 h2
  rcases (show c = 1 ∨ c = 2 ∨ c = 3 ∨ c = 4 ∨ c = 5 ∨ c = 6 ∨ c = 7 ∨ c = 8 ∨ c = 9 ∨ c = 10 ∨ c = 11 ∨ c = 12 by omega) with rfl | rfl | rfl | rfl | rfl | rfl | rfl | rfl | rfl | rfl | rfl | rfl <;> exact ⟨_, _, _, rfl, by decide +kernel⟩
theorem den32 : ∀ c, 1 ≤ c → c ≤ 12 → ∃ t d r, FP.Core.decode FP.Core.b32 (FP.i2f (nI c)).toNat = .fin t d r ∧ d ≠ 0 := by
  intro c h1 h2
  rcases (show c = 1 ∨ c = 2 ∨ c = 3 ∨ c = 4 ∨ c = 5 ∨ c = 6 ∨ c = 7 ∨ c = 8 ∨ c = 9 ∨ c = 10 ∨ c = 11 ∨ c = 12 by omega) with rfl | rfl | rfl | rfl | rfl | rfl | rfl | rfl | rfl | rfl | rfl | rfl <;> exact ⟨_, _, _, rfl, by decide +kernel⟩
theorem mean64 (a : Int32) {c : Nat} (h1 : 1 ≤ c) (h2 : c ≤ 12) : num64 (FP.ddiv (FP.i2d a) (FP.i2d (nI c))) := by
  obtain ⟨t, d, r, h3, h4⟩ := den64 c h1 h2
  have h5 : num64 (FP.i2d a) := num64_of (fD_round2 (by decide) (by decide) _)
  refine num64_of ?_
  rw [h3]
  exact fD_quot (by decide) (by decide) (fD_dec64 _ h5.2) h4
theorem mean32 (a : Int32) {c : Nat} (h1 : 1 ≤ c) (h2 : c ≤ 12) : num32 (FP.fdiv (FP.i2f a) (FP.i2f (nI c))) := by
  obtain ⟨t, d, r, h3, h4⟩ := den32 c h1 h2
  have h5 : num32 (FP.i2f a) := num32_of (fD_round2 (by decide) (by decide) _)
  refine num32_of ?_
  rw [h3]
  exact fD_quot (by decide) (by decide) (fD_dec32 _ h5.2) h4
