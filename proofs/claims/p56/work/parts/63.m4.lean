/-! what the class answers, over the model: x the batch, t the trial, r the rest -/
abbrev R8 : Type := SX0 × Int32 × SX3 × SX6 × Int32 × Int32 × Int32 × Int32
def sS (x t : MB) (r : R8) : SX7 := (eB x, eB t, r)
abbrev nQ (x : MB) : Nat := x.2.2.1.2.2.2.2
abbrev nF (x : MB) : Nat := x.1.2.2.2.1
theorem bS_some {α γ : Type} (a : α) (S : SX7) (k : α → SX7 → Option γ) : bS (some (a, S)) k = k a S := rfl
theorem bT_inl {α γ : Type} (a : α) (S : SX7) (k : α → SX7 → Option γ) : bT (some (Sum.inl a, S)) k = k a S := rfl
theorem h_hasC {k i v : Ar} {p d f : Int32} {n q : Nat} (hq : q < n) (hn : n ≤ 8) : f_X2_has k i v (nI n) p d f (nI q) = some 1 := by
  unfold f_X2_has
  rw [if_neg (nI_pos (by omega)), if_neg (nI_ge hq (by omega))]
theorem h_hasT {M T S C : Ar} {c q : Nat} (hq : q < c) (hn : c ≤ 12) : f_X4_has M T S C (nI c) (nI q) = some 1 := by
  unfold f_X4_has
  rw [if_neg (nI_pos (by omega)), if_neg (nI_ge hq (by omega))]
theorem h_hasT0 {M T S C : Ar} {c q : Nat} (hq : c ≤ q) (hn : q < 100) : f_X4_has M T S C (nI c) (nI q) = some 0 := by
  unfold f_X4_has
  rw [if_neg (nI_pos (by omega)), if_pos (nI_le hq (by omega))]
def fmI (t : MT) (i : Nat) : Int32 := nI (t.2.2.1 i) - 15 * nI (t.2.2.2.1 i)
theorem h_fm {t : MT} {q : Nat} (hq : q < t.2.2.2.2) (hn : t.2.2.2.2 ≤ 12) : f_X4_firmnessOf (eF t.1) (eF t.2.1) (eF t.2.2.1) (eF t.2.2.2.1) (nI t.2.2.2.2) (nI q) = some (fmI t q) := by
  unfold f_X4_firmnessOf
  rw [h_hasT hq hn]
  simp only [Option.bind_some]
  rw [if_neg (by decide), if_neg (nI_in (by omega) (by omega)), if_neg (nI_in (by omega) (by omega)), nI_clamp (by omega)]
  rfl
theorem h_mass {t : MT} {q : Nat} (hq : q < t.2.2.2.2) (hn : t.2.2.2.2 ≤ 12) : f_X4_massOf (eF t.1) (eF t.2.1) (eF t.2.2.1) (eF t.2.2.2.1) (nI t.2.2.2.2) (nI q) = some (nI (t.1 q)) := by
  unfold f_X4_massOf
  rw [h_hasT hq hn]
  simp only [Option.bind_some]
  rw [if_neg (by decide), if_neg (nI_in (by omega) (by omega)), nI_clamp (by omega)]
  rfl
theorem h_cool {t : MT} {q : Nat} (hq : q < t.2.2.2.2) (hn : t.2.2.2.2 ≤ 12) (hT : t.2.1 q ≤ 200) : f_X4_hasCool (eF t.1) (eF t.2.1) (eF t.2.2.1) (eF t.2.2.2.1) (nI t.2.2.2.2) (nI q) = some (if t.2.1 q ≤ 30 then 1 else 0) := by
  unfold f_X4_hasCool
  rw [h_hasT hq hn]
  simp only [Option.bind_some]
  rw [if_neg (by decide), if_neg (nI_in (by omega) (by omega)), nI_clamp (by omega)]
  by_cases h : t.2.1 q ≤ 30
  · rw [if_neg (show ¬ 30 < eF t.2.1 q from nI_nlt (b := t.2.1 q) (a := 30) h (by omega)), if_pos h]
  · rw [if_pos (show 30 < eF t.2.1 q from nI_lt (a := 30) (by omega) (by omega)), if_neg h]
section RD
variable {x t : MB} {r : R8}
theorem r_phaseCount : g_X7_phaseCount (sS x t r) = some (nI (nF x)) := rfl
theorem r_mass : g_X7_mass (sS x t r) = some (nI x.2.1.1) := rfl
theorem r_temperature : g_X7_temperature (sS x t r) = some (nI (tmp x)) := rfl
theorem r_smoothness : g_X7_smoothness (sS x t r) = some (nI x.2.1.2.2.1) := rfl
theorem r_stress : g_X7_stress (sS x t r) = some (nI x.2.1.2.2.2) := rfl
theorem r_finished : g_X7_finishedCycles (sS x t r) = some (fin9 x) := rfl
theorem r_minute : g_X7_minute (sS x t r) = some x.2.2.2.2.1 := rfl
theorem r_loaded : g_X7_loadedMass (sS x t r) = some x.2.2.2.2.2.1 := rfl
theorem r_graded : g_X7_gradedMass (sS x t r) = some x.2.2.2.2.2.2 := rfl
theorem r_patCount : g_X7_patCount (sS x t r) = some (nI (nQ x)) := rfl
theorem r_phases (ho : okB x) : g_X7_minutesLeftByPhases (sS x t r) = some (nI (lf x)) := by
  obtain ⟨⟨K, I, V, n, p, d, f⟩, h, tt, G, mi, lo, gr⟩ := x
  obtain ⟨zn, zv, zh, zx, zk, zd, ze, zc⟩ := r
  have hl := lf_facts ho
  obtain ⟨⟨h1, -, h3, h4, h5⟩, -⟩ := ho
  simp only at h1 h3 h4 h5 hl
  show ((f_X2_minutesToCome (eF K) (eF I) (eF V) (nI n) (pI p) (nI d) f).bind fun r2 => some r2) = _
  have loop : ∀ (fu i : Nat) (a : Int32), n < fu + i → i ≤ n → f_X2_minutesToCome_20 (eF K) (eF I) (eF V) (nI n) (pI p) (nI d) f fu a (nI i) = some (a + nI (sU I n - sU I i)) := by
    intro fu
    induction fu with
    | zero => intro i a h1 h2; omega
    | succ fu ih =>
      intro i a h6 h7
      rw [f_X2_minutesToCome_20]
      by_cases h : n ≤ i
      · rw [if_pos (nI_le h (by omega)), show i = n by omega, Nat.sub_self, nI_0, Int32.add_zero]
      · rw [if_neg (nI_ge (by omega) (by omega)), if_neg (nI_in (by omega) (by omega)), nI_clamp (by omega), nI_1, ih (i + 1) _ (by omega) (by omega)]
        have e1 : sU I (i + 1) = sU I i + I i := rfl
        have e2 : sU I (i + 1) ≤ sU I n := sU_mono I (by omega)
        rw [show eF I i = nI (I i) from rfl, Int32.add_assoc, nI_add, show I i + (sU I n - sU I (i + 1)) = sU I n - sU I i by omega]
  unfold f_X2_minutesToCome
  by_cases hp : p = 0
  · subst hp
    rw [pI_0, u_no]
    rw [(hl.2.2 rfl).1]
    rfl
  · rw [pI_of hp, u_yes _ _ _ _ _ (by omega) h1]
    simp only [Option.bind_some]
    rw [if_neg (by decide), ← pI_of hp, pI_of hp]
    have h8 := loop 300 (p - 1) (-nI d) (by omega) (by omega)
    rw [pI_of hp] at h8
    rw [h8]
    have h9 := (hl.2.1 hp).1
    have e : lf ((K, I, V, n, p, d, f), h, tt, G, mi, lo, gr) = sU I n - sU I (p - 1) - d := by simp [lf, hp]
    rw [e] at h9 ⊢
    rw [Int32.add_comm, ← Int32.sub_eq_add_neg, pk_sub (by omega)]
    rfl
theorem r_running (ho : okB x) : g_X7_isRunning (sS x t r) = some (if lf x = 0 then 0 else 1) := by
  obtain ⟨zn, zv, zh, zx, zk, zd, ze, zc⟩ := r
  show ((g_X2_isUnderWay (eB x).1).bind fun r2 => if ¬ (r2 = 0 ∨ r2 = 1) then none else some r2) = _
  rw [s_under ho]
  by_cases h : lf x = 0
  · simp [h]
  · simp [h]
/-- the law's presentPhase -/
def prI (x : MB) : Int32 := if lf x = 0 then -1000 else nI (x.1.2.2.2.2.1 - 1)
theorem r_present (ho : okB x) : f_L_presentPhase (sS x t r) = some (prI x, sS x t r) := by
  have hr := lf_run ho
  obtain ⟨zn, zv, zh, zx, zk, zd, ze, zc⟩ := r
  have e : g_X7_presentPhase (sS x t (zn, zv, zh, zx, zk, zd, ze, zc)) = (if lf x = 0 then some (.inr "java/util/NoSuchElementException", sS x t (zn, zv, zh, zx, zk, zd, ze, zc)) else some (.inl (pI x.1.2.2.2.2.1), sS x t (zn, zv, zh, zx, zk, zd, ze, zc))) := by
    show ((g_X2_isUnderWay (eB x).1).bind fun r2 => (if r2 = 0 then _ else _)) = _
    rw [s_under ho]
    by_cases h : lf x = 0
    · simp [h] <;> rfl
    · simp [h] <;> rfl
  unfold f_L_presentPhase prI
  rw [e]
  by_cases h : lf x = 0
  · simp [h]
  · rw [if_neg h, if_neg h, pI_of fun h9 => h (hr.mp h9)]
    rfl
theorem r_reqC (ho : okB x) {i : Nat} (hi : i < nF x) : f_X7_requirePhase (sS x t r).1 (sS x t r).2.1 (sS x t r).2.2.1 (sS x t r).2.2.2.1 (sS x t r).2.2.2.2.1 (sS x t r).2.2.2.2.2.1 (sS x t r).2.2.2.2.2.2.1 (sS x t r).2.2.2.2.2.2.2.1 (sS x t r).2.2.2.2.2.2.2.2.1 (sS x t r).2.2.2.2.2.2.2.2.2 (nI i) = some (.inl (), sS x t r) := by
  show ((f_X2_has (eF x.1.1) (eF x.1.2.1) (eF x.1.2.2.1) (nI x.1.2.2.2.1) (pI x.1.2.2.2.2.1) (nI x.1.2.2.2.2.2.1) x.1.2.2.2.2.2.2 (nI i)).bind fun r2 => _) = _
  rw [h_hasC hi ho.1.1]
  rfl
theorem r_kind (ho : okB x) {i : Nat} (hi : i < nF x) : g_X7_phaseKind (sS x t r) (nI i) = some (.inl (nI (x.1.1 i)), sS x t r) := by
  have h8 : nF x ≤ 8 := ho.1.1
  have hk := ho.1.2.1 i
  unfold g_X7_phaseKind f_X7_phaseKind
  rw [r_reqC ho hi]
  show (if nI i < 0 ∨ 8 ≤ (nI i).toNatClampNeg then none else if ¬ (0 ≤ eF x.1.1 (nI i).toNatClampNeg ∧ eF x.1.1 (nI i).toNatClampNeg ≤ 65535) then none else some (Sum.inl (eF x.1.1 (nI i).toNatClampNeg), _)) = _
  rw [if_neg (nI_in (by omega) (by omega)), nI_clamp (by omega), if_neg (Decidable.not_not.mpr ⟨nI_pos' (by omega), nI_le (b := 65535) (by omega) (by omega)⟩)]
  rfl
theorem r_minutes (ho : okB x) {i : Nat} (hi : i < nF x) : g_X7_phaseMinutes (sS x t r) (nI i) = some (.inl (nI (x.1.2.1 i)), sS x t r) := by
  have h8 : nF x ≤ 8 := ho.1.1
  unfold g_X7_phaseMinutes f_X7_phaseMinutes
  rw [r_reqC ho hi]
  show (if nI i < 0 ∨ 8 ≤ (nI i).toNatClampNeg then none else some (Sum.inl (eF x.1.2.1 (nI i).toNatClampNeg), _)) = _
  rw [if_neg (nI_in (by omega) (by omega)), nI_clamp (by omega)]
  rfl
theorem r_req (ho : okB x) {i : Nat} (hi : i < nQ x) : f_X7_requirePat (sS x t r).1 (sS x t r).2.1 (sS x t r).2.2.1 (sS x t r).2.2.2.1 (sS x t r).2.2.2.2.1 (sS x t r).2.2.2.2.2.1 (sS x t r).2.2.2.2.2.2.1 (sS x t r).2.2.2.2.2.2.2.1 (sS x t r).2.2.2.2.2.2.2.2.1 (sS x t r).2.2.2.2.2.2.2.2.2 (nI i) = some (.inl (), sS x t r) := by
  show ((f_X4_has (eF x.2.2.1.1) (eF x.2.2.1.2.1) (eF x.2.2.1.2.2.1) (eF x.2.2.1.2.2.2.1) (nI x.2.2.1.2.2.2.2) (nI i)).bind fun r2 => _) = _
  rw [h_hasT hi ho.2.2.1.1]
  rfl
theorem r_patMass (ho : okB x) {i : Nat} (hi : i < nQ x) : g_X7_patMass (sS x t r) (nI i) = some (.inl (nI (x.2.2.1.1 i)), sS x t r) := by
  have h12 : nQ x ≤ 12 := ho.2.2.1.1
  unfold g_X7_patMass f_X7_patMass
  rw [r_req ho hi]
  show (if nI i < 0 ∨ 12 ≤ (nI i).toNatClampNeg then none else some (Sum.inl (eF x.2.2.1.1 (nI i).toNatClampNeg), _)) = _
  rw [if_neg (nI_in (by omega) (by omega)), nI_clamp (by omega)]
  rfl
theorem r_patTemp (ho : okB x) {i : Nat} (hi : i < nQ x) : g_X7_patTemperature (sS x t r) (nI i) = some (.inl (nI (x.2.2.1.2.1 i)), sS x t r) := by
  have h12 : nQ x ≤ 12 := ho.2.2.1.1
  unfold g_X7_patTemperature f_X7_patTemperature
  rw [r_req ho hi]
  show (if nI i < 0 ∨ 12 ≤ (nI i).toNatClampNeg then none else some (Sum.inl (eF x.2.2.1.2.1 (nI i).toNatClampNeg), _)) = _
  rw [if_neg (nI_in (by omega) (by omega)), nI_clamp (by omega)]
  rfl
theorem r_cracks (ho : okB x) {i : Nat} (hi : i < nQ x) : g_X7_cracks (sS x t r) (nI i) = some (.inl (nI (x.2.2.1.2.2.2.1 i)), sS x t r) := by
  have h12 : nQ x ≤ 12 := ho.2.2.1.1
  unfold g_X7_cracks f_X7_cracks
  rw [r_req ho hi]
  show (if nI i < 0 ∨ 12 ≤ (nI i).toNatClampNeg then none else some (Sum.inl (eF x.2.2.1.2.2.2.1 (nI i).toNatClampNeg), _)) = _
  rw [if_neg (nI_in (by omega) (by omega)), nI_clamp (by omega)]
  rfl
theorem r_firm (ho : okB x) {i : Nat} (hi : i < nQ x) : g_X7_firmness (sS x t r) (nI i) = some (.inl (fmI x.2.2.1 i), sS x t r) := by
  have h12 : nQ x ≤ 12 := ho.2.2.1.1
  unfold g_X7_firmness f_X7_firmness
  rw [r_req ho hi]
  show ((f_X4_firmnessOf (eF x.2.2.1.1) (eF x.2.2.1.2.1) (eF x.2.2.1.2.2.1) (eF x.2.2.1.2.2.2.1) (nI x.2.2.1.2.2.2.2) (nI i)).bind fun r5 => some (Sum.inl r5, _)) = _
  rw [h_fm hi h12]
  rfl
theorem r_isCool (ho : okB x) {i : Nat} (hi : i < nQ x) : g_X7_isCool (sS x t r) (nI i) = some (.inl (if x.2.2.1.2.1 i ≤ 30 then 1 else 0), sS x t r) := by
  have h12 : nQ x ≤ 12 := ho.2.2.1.1
  unfold g_X7_isCool f_X7_isCool
  rw [r_req ho hi]
  show ((f_X4_hasCool (eF x.2.2.1.1) (eF x.2.2.1.2.1) (eF x.2.2.1.2.2.1) (eF x.2.2.1.2.2.2.1) (nI x.2.2.1.2.2.2.2) (nI i)).bind fun r5 => if ¬ (r5 = 0 ∨ r5 = 1) then none else some (Sum.inl r5, _)) = _
  rw [h_cool hi h12 ((ho.2.2.1.2 i hi).2.2.1)]
  by_cases h : x.2.2.1.2.1 i ≤ 30
  · simp [h] <;> rfl
  · simp [h] <;> rfl
theorem r_gcount {k : Nat} (hk : k < 5) : g_X7_gradedCount (sS x t r) (nI (97 + k)) = some (.inl (x.2.2.2.1 k), sS x t r) := by
  show ((f_X7_isWithin (nI (97 + k) - 97) 0 4).bind fun r2 => _) = _
  have e : nI (97 + k) - 97 = nI k := by
    rw [show (97 : Int32) = nI 97 from rfl, pk_sub (by omega), show 97 + k - 97 = k by omega]
  rw [e]
  unfold f_X7_isWithin
  rw [if_neg (nI_pos (by omega)), if_neg (show ¬ 4 < nI k from nI_nlt (b := k) (a := 4) (by omega) (by omega))]
  simp only [Option.bind_some]
  rw [if_neg (by decide), if_neg (nI_in (by omega) (by omega)), nI_clamp (by omega)]
  rfl
end RD
