/-! the law's checks over the model: digest, isCycle, arePats -/
theorem i2c_97 : ∀ k, k < 5 → ((nI (97 + k) + 1).toUInt32 % 65536).toInt32 = nI (97 + (k + 1)) := by decide +kernel
section CK
variable {x : MB}
theorem dg_184 (ho : okB x) : ∀ (fu i : Nat) (h : Int64), nQ x < fu + i → i ≤ nQ x → ∃ h9, ∀ t r, f_L_digest_184 fu (sS x t r) h (nI i) = some (h9, sS x t r) := by
  have h12 : nQ x ≤ 12 := ho.2.2.1.1
  intro fu
  induction fu with
  | zero => intro i h h1 h2; omega
  | succ fu ih =>
    intro i h h1 h2
    by_cases hc : nQ x ≤ i
    · refine ⟨h, fun t r => ?_⟩
      rw [f_L_digest_184, r_patCount]
      simp only [Option.bind_some]
      rw [if_pos (nI_le hc (by omega))]
    · obtain ⟨h9, e9⟩ := ih (i + 1) (((31 * ((31 * ((31 * ((31 * h) + (nI (x.2.2.1.1 i)).toInt64)) + (nI (x.2.2.1.2.1 i)).toInt64)) + (nI (x.2.2.1.2.2.2.1 i)).toInt64)) + (fmI x.2.2.1 i).toInt64)) (by omega) (by omega)
      refine ⟨h9, fun t r => ?_⟩
      have hi : i < nQ x := by omega
      rw [f_L_digest_184, r_patCount]
      simp only [Option.bind_some]
      rw [if_neg (nI_ge (by omega) (by omega)), r_patMass ho hi, bT_inl, r_patTemp ho hi, bT_inl, r_cracks ho hi, bT_inl, r_firm ho hi, bT_inl, nI_1]
      exact e9 t r
theorem dg_144 (ho : okB x) : ∀ (fu i : Nat) (h : Int64), nF x < fu + i → i ≤ nF x → ∃ h9, ∀ t r, f_L_digest_144 fu (sS x t r) h (nI i) = some (h9, sS x t r) := by
  have h8 : nF x ≤ 8 := ho.1.1
  have h12 : nQ x ≤ 12 := ho.2.2.1.1
  intro fu
  induction fu with
  | zero => intro i h h1 h2; omega
  | succ fu ih =>
    intro i h h1 h2
    by_cases hc : nF x ≤ i
    · obtain ⟨h9, e9⟩ := dg_184 ho 13 0 h (by omega) (by omega)
      refine ⟨h9, fun t r => ?_⟩
      rw [f_L_digest_144, r_phaseCount]
      simp only [Option.bind_some]
      rw [if_pos (nI_le hc (by omega))]
      exact e9 t r
    · obtain ⟨h9, e9⟩ := ih (i + 1) ((31 * ((31 * h) + (nI (x.1.1 i)).toInt64)) + (nI (x.1.2.1 i)).toInt64) (by omega) (by omega)
      refine ⟨h9, fun t r => ?_⟩
      have hi : i < nF x := by omega
      rw [f_L_digest_144, r_phaseCount]
      simp only [Option.bind_some]
      rw [if_neg (nI_ge (by omega) (by omega)), r_kind ho hi, bT_inl, r_minutes ho hi, bT_inl, nI_1]
      exact e9 t r
theorem dg_83 (ho : okB x) : ∀ (fu k : Nat) (h : Int64), 5 < fu + k → k ≤ 5 → ∃ h9, ∀ t r, f_L_digest_83 fu (sS x t r) h (nI (97 + k)) = some (h9, sS x (itN (lf x) x) r) := by
  have h8 : nF x ≤ 8 := ho.1.1
  intro fu
  induction fu with
  | zero => intro i h h1 h2; omega
  | succ fu ih =>
    intro k h h1 h2
    by_cases hc : 5 ≤ k
    · obtain ⟨h9, e9⟩ := dg_144 ho 9 0 ((31 * ((31 * ((31 * h) + (nI (nF x)).toInt64)) + (prI x).toInt64)) + (nI (lf x)).toInt64) (by omega) (by omega)
      refine ⟨h9, fun t r => ?_⟩
      rw [f_L_digest_83, if_pos (show 101 < nI (97 + k) from nI_lt (a := 101) (by omega) (by omega)), r_phaseCount]
      simp only [Option.bind_some]
      rw [r_present ho, bS_some, r_left ho, bS_some]
      exact e9 _ r
    · obtain ⟨h9, e9⟩ := ih (k + 1) ((31 * h) + (x.2.2.2.1 k).toInt64) (by omega) (by omega)
      refine ⟨h9, fun t r => ?_⟩
      rw [f_L_digest_83, if_neg (show ¬ 101 < nI (97 + k) from nI_nlt (b := 97 + k) (a := 101) (by omega) (by omega)), r_gcount (by omega), bT_inl, i2c_97 k (by omega)]
      exact e9 t r
theorem dg_0 (x : MB) : ∃ H : Int64, ∀ t r, f_L_digest (sS x t r) = f_L_digest_83 6 (sS x t r) H 97 := by
  refine ⟨?_, fun t r => ?_⟩
  rotate_left
  · unfold f_L_digest
    rw [r_minute, Option.bind_some, r_mass, Option.bind_some, r_temperature, Option.bind_some, r_smoothness, Option.bind_some, r_stress, Option.bind_some, r_finished, Option.bind_some, r_loaded, Option.bind_some, r_graded, Option.bind_some]
theorem p_digest (ho : okB x) : ∃ h9 : Int64, ∀ t r, f_L_digest (sS x t r) = some (h9, sS x (itN (lf x) x) r) := by
  obtain ⟨H, eH⟩ := dg_0 x
  obtain ⟨h9, e9⟩ := dg_83 ho 6 0 H (by omega) (by omega)
  refine ⟨h9, fun t r => ?_⟩
  rw [eH, show (97 : Int32) = nI (97 + 0) by decide +kernel]
  exact e9 t r
/-- the digest of a batch -/
noncomputable def dgx (x : MB) : Int64 := @dite _ (∃ h9 : Int64, ∀ t r, f_L_digest (sS x t r) = some (h9, sS x (itN (lf x) x) r)) (Classical.propDecidable _) (fun h => h.choose) (fun _ => 0)
theorem r_digest (ho : okB x) {t : MB} {r : R8} : f_L_digest (sS x t r) = some (dgx x, sS x (itN (lf x) x) r) := by
  have h := p_digest ho
  have e : dgx x = h.choose := dif_pos h
  rw [e]
  exact h.choose_spec t r
theorem p_190 (ho : okB x) {t : MB} {r : R8} : f_L_isCycle_190 (sS x t r) = some (1, sS x t r) := by
  obtain ⟨a1, a2, a3, a4⟩ := ho.2.1
  unfold f_L_isCycle_190
  rw [r_temperature, r_smoothness, r_stress]
  simp only [Option.bind_some]
  rw [if_neg (nI_pos (n := tmp x) (show x.2.1.2.1 < 2 ^ 31 by omega)), if_neg (show ¬ 200 < nI (tmp x) from nI_nlt (b := tmp x) (a := 200) a2 (show x.2.1.2.1 < 2 ^ 31 ∨ (200 : Nat) < 2 ^ 31 by omega |> fun _ => by omega)), if_neg (show ¬ 100 < nI x.2.1.2.2.1 from nI_nlt (a := 100) a3 (by omega)), if_neg (show ¬ 99 < nI x.2.1.2.2.2 from nI_nlt (a := 99) a4 (by omega))]
end CK
