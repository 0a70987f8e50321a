/-! from the entry to the law's walk -/
set_option maxRecDepth 100000 in
set_option maxHeartbeats 8000000 in
theorem whole_open {p : Program} {e : Env} {s : State} {m : MethodId} {below : List Frame} {meth : Method} {c : Code} (l : Launch) (hflags : l.flags = flags0) {b L : Nat} {xs : Nat → Int32} (hT : f_L_law L xs S0 = some 1) (C0 : lw_At p s m meth c b L xs) : W p l e room_1 s m #[Value.ref b] below meth c s.heap [] 0 0 (lw_Z below #[Value.ref b] s) (entryFrame m ([Value.ref b] : List Value).toArray 9) := by
  obtain ⟨hx, hb0, hr, hml, hown, hts0, hX, hbl, hlocks, hgv⟩ := id C0
  have hl0 : l.stackTraces = false := by
    unfold Launch.stackTraces
    rw [hflags]
    decide
  have hb : c.code = cL_law := hb0
  have hown : s.vm.findClass RL = some m.cls := hown
  have hA : ∀ q : Nat, s.heap.size ≤ q → (fun q : Nat => s.heap.size ≤ q) q := fun _ h => h
  have hbA : ¬ (fun q : Nat => s.heap.size ≤ q) b := Nat.not_le.mpr hbl
  obtain ⟨dC, dI, dA, hK⟩ := st_K hts0
  obtain ⟨gz, hZ⟩ := st_Z (A := fun q : Nat => s.heap.size ≤ q) hts0 hgv (fun a h1 h2 => absurd h1 (Nat.not_lt.mpr h2))
  have hts := st_B hts0
  have hN : nW s := st_N hts0
  have hC : nC s := st_C hgv
  have hAO : va_AO "StoneChurn$Batch" s := va_AO.of (tb_at hts0 190 (by decide +kernel))
  have hS : va_S (fun q : Nat => s.heap.size ≤ q) s.heap s.heap [] := va_S.rf
  have hP : va_P (dC, dI) vwCl [] s.heap := fun k q h => by simp at h
  have hD : va_D (fun q : Nat => s.heap.size ≤ q) [] := ⟨fun i j p q h => by simp at h, fun k q h => by simp at h⟩
  have hl := lv_entry ([.ref b]) (n := 9) (Nat.le_of_ble_eq_true rfl)
  rw [lg_entry_eq]
  generalize (lg_sl ([.ref b]) ++ List.replicate (9 - (lg_sl ([.ref b])).length) Slot.unset).toArray = ls at hl ⊢
  have hl : lv_has ls 9 [(0, .ref b)] := hl
  refine va_new (ci := 11) (fs := [.null, .null, .null, .int 0, .null, .null, .int 0, .null, .int 0, .int 0, .int 0]) (C := RX7) (T := TX7) (N := 11) hx hb hts inB_X7 tyX7 tyX7_ok hown (hts _ wd_32) (hts _ wd_33) (hts _ wd_1) hK hP hD hS hA rfl (fun j hj => by
    rcases (show j = 0 ∨ j = 1 ∨ j = 2 ∨ j = 3 ∨ j = 4 ∨ j = 5 ∨ j = 6 ∨ j = 7 ∨ j = 8 ∨ j = 9 ∨ j = 10 by omega) with rfl | rfl | rfl | rfl | rfl | rfl | rfl | rfl | rfl | rfl | rfl <;> rfl) (Nat.le_of_ble_eq_true rfl) (Nat.le_of_ble_eq_true rfl) dL_law_0 (fun h0 H hP hD hS => ?_)
  have hP : va_P (dC, dI) vwCl (([] : List va_W) ++ ([[(h0, .inr (11, [.null, .null, .null, .int 0, .null, .null, .int 0, .null, .int 0, .int 0, .int 0]))]] : List va_W)).flatten H := hP
  have hD : va_D (fun q : Nat => s.heap.size ≤ q) (([] : List va_W) ++ ([[(h0, .inr (11, [.null, .null, .null, .int 0, .null, .null, .int 0, .null, .int 0, .int 0, .int 0]))]] : List va_W)).flatten := hD
  have hP9 : va_P (dC, dI) vwCl [(h0, .inr (11, [.null, .null, .null, .int 0, .null, .null, .int 0, .null, .int 0, .int 0, .int 0]))] H := hP
  have hD9 : va_D (fun q : Nat => s.heap.size ≤ q) [(h0, .inr (11, [.null, .null, .null, .int 0, .null, .null, .int 0, .null, .int 0, .int 0, .int 0]))] := hD
  refine lv_dup hx hb dL_law_3 rfl ?_
  refine jle_v (gs := []) (g := [(h0, .inr (11, [.null, .null, .null, .int 0, .null, .null, .int 0, .null, .int 0, .int 0, .int 0]))]) (g1 := (fun u : (Nat → Nat) × Nat => wX7 dA u.1 S0 (u.2, 0, 16, z0, nI 0))) (va_runI (As := []) (rest := [.ref h0]) ⟨hx, hb, hml, hown, hts⟩ (m_X7_init l dC dI dA gz H.size h0) (cwI 0 hts (gi_n bgI wd_36) rfl rfl rfl (hts _ wd_1) (hts _ wd_34) (hts _ wd_35) rfl hd3_X7_init ⟨Nat.le_of_ble_eq_true rfl, Nat.le_of_ble_eq_true rfl⟩) ⟨pPo_blind, pPo_of hAO (pP_preW hP9 hD9 hS hA hK hN hZ)⟩ rfl rfl hl.1 rfl (lv_room (Nat.le_of_ble_eq_true rfl)) dL_law_4 ⟨Nat.le_of_ble_eq_true rfl, Nat.le_of_ble_eq_true rfl⟩) hP hD hS hA (fun u H locs ho hP hD hS => ?_)
  obtain ⟨oa, q9⟩ := u
  have ho : oa 0 = h0 := ho
  have hP : va_P (dC, dI) vwCl (wX7 dA oa S0 (q9, 0, 16, z0, nI 0)) H := by
    have h9 := hP
    simpa only [List.nil_append, List.flatten_cons, List.flatten_nil, List.append_nil] using h9
  have hD : va_D (fun q : Nat => s.heap.size ≤ q) (wX7 dA oa S0 (q9, 0, 16, z0, nI 0)) := by
    have h9 := hD
    simpa only [List.nil_append, List.flatten_cons, List.flatten_nil, List.append_nil] using h9
  rw [← ho]
  refine lv_astore_n (lv' := [(1, .ref (oa 0)), (0, .ref b)]) hx hb dL_law_7 rfl hl (by decide) rfl (fun ls hl => ?_)
  exact law_walk l hl0 C0 hts dC dI dA gz oa _ hbA hA (fun _ h => h) hK hN hC hZ (q9, 0, 0, 16, z0) ⟨Nat.le_of_ble_eq_true rfl, Nat.le_of_ble_eq_true rfl, sb_fit0⟩ S0 hT H locs ls hP hD hS hl
