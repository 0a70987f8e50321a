def g_X3_push (s : SX3) (b : SX0) : Option SX3 :=
  if s.1 < 0 ∨ 8 ≤ s.1.toNatClampNeg then none else
  (g_X0_copyFrom (s.2.2 s.1.toNatClampNeg) b).bind fun c5 =>
  some (((s.1 + 1) - (s.1 + 1) / 8 * 8), (if (s.2.1 + 1) < 8 then (s.2.1 + 1) else 8), va_up s.2.2 s.1.toNatClampNeg c5)
def hq (n : Int32) : Int32 := (((n + 8) - 1) - ((n + 8) - 1) / 8 * 8)
def g_X3_pop (s : SX3) (b : SX0) : Option (SX3 × SX0) :=
  if s.2.1 ≤ 0 then some (s, b) else
  if s.1 < 0 ∨ 8 ≤ s.1.toNatClampNeg then none else
  (g_X0_copyFrom b (s.2.2 (hq s.1).toNatClampNeg)).bind fun c5 =>
  some ((hq s.1, s.2.1 - 1, s.2.2), c5)
def g_X3_forgetAll (s : SX3) : Option SX3 := some (s.1, 0, s.2.2)
set_option maxRecDepth 100000 in
set_option maxHeartbeats 4000000 in
theorem m_X3_push_0 (l : Launch) (dC : Nat → ClassId) (dI : Nat → Nat → Nat) (dA gz : Nat → Nat) (oa ob : Nat → Nat) (sz : Nat) (c : Int32) (q : Nat → SX0) (b : SX0) (c5 : SX0) (e5 : g_X0_copyFrom (q 0) b = some c5) : Met l yX3_push ws_X3_push ({ frames := 30, cells := 0, slots := 0, locals := 1200 } : Room) (va_Pc [.ref (oa 0), .ref (ob 0)] (pP (dC, dI) dA gz (wX3 dA oa (0, c, q) ++ wX0 dA ob b) sz)) (va_Qv (S := Unit) (fun _ => True) (fun _ t => pQ (dC, dI) (va_A (wX3 dA oa (0, c, q) ++ wX0 dA ob b) sz) (wX3 dA oa (((0 + 1) - (0 + 1) / 8 * 8), (if (c + 1) < 8 then (c + 1) else 8), va_up q 0 c5) ++ wX0 dA ob b) t) (va_A (wX3 dA oa (0, c, q) ++ wX0 dA ob b) sz)) 0 0 (va_A (wX3 dA oa (0, c, q) ++ wX0 dA ob b) sz) := by
  refine Met.ofW (cc := cX3_push) (maxL := 2) (ret := none) (by decide) rfl ?_
  intro p e s m args below meth cd s₁ B hml hv
  obtain ⟨rfl, hsz, hP, hK, hD0, hN, hZ⟩ := hv
  have hx := B.exec
  have hb := B.bytes
  have hr := B.returns
  have hts := atoms_spec (ws := ws_X3_push) B.pre
  have hown : s.vm.findClass RX3 = some m.cls := findClass_of_methodNamed B.named
  have hlocks := B.notSynchronized
  subst hsz
  have hD := hD0.self (sz := s.heap.size)
  generalize hAe : va_A (wX3 dA oa (0, c, q) ++ wX0 dA ob b) s.heap.size = A at hD hZ ⊢
  have hA : ∀ q : Nat, s.heap.size ≤ q → A q := fun q h => by rw [← hAe]; exact Or.inr h
  have hS : va_S A s.heap s.heap [] := va_S.rf
  have hl := lv_entry [.ref (oa 0), .ref (ob 0)] (n := 2) (Nat.le_of_ble_eq_true rfl)
  rw [lg_entry_eq]
  generalize (lg_sl [.ref (oa 0), .ref (ob 0)] ++ List.replicate (2 - (lg_sl [.ref (oa 0), .ref (ob 0)]).length) Slot.unset).toArray = ls at hl ⊢
  have hl : lv_has ls 2 [(0, .ref (oa 0)), (1, .ref (ob 0))] := hl
  have in_X3 : ∀ w ∈ wsX30, w ∈ ws_X3_push := fun w h => bg _ (inB_X3 w h)
  have hP : va_P (dC, dI) vwCl ([wH dA oa 0 c, wX0 dA (fun k => oa (2 + k)) (q 0), wX0 dA (fun k => oa (15 + k)) (q 1), wX0 dA (fun k => oa (28 + k)) (q 2), wX0 dA (fun k => oa (41 + k)) (q 3), wX0 dA (fun k => oa (54 + k)) (q 4), wX0 dA (fun k => oa (67 + k)) (q 5), wX0 dA (fun k => oa (80 + k)) (q 6), wX0 dA (fun k => oa (93 + k)) (q 7), wX0 dA ob b] : List va_W).flatten s.heap := by have h := hP; rw [wX3, fl_snoc] at h; exact h
  have hD : va_D A ([wH dA oa 0 c, wX0 dA (fun k => oa (2 + k)) (q 0), wX0 dA (fun k => oa (15 + k)) (q 1), wX0 dA (fun k => oa (28 + k)) (q 2), wX0 dA (fun k => oa (41 + k)) (q 3), wX0 dA (fun k => oa (54 + k)) (q 4), wX0 dA (fun k => oa (67 + k)) (q 5), wX0 dA (fun k => oa (80 + k)) (q 6), wX0 dA (fun k => oa (93 + k)) (q 7), wX0 dA ob b] : List va_W).flatten := by have h := hD; rw [wX3, fl_snoc] at h; exact h
  refine lv_aload_n hx hb dX3_push_0 rfl (lv_at hl 0 rfl) ?_
  refine va_get (D := (dC, dI)) (ci := 7) (v := .ref (oa 1)) (C := RX3) (T := TX3) (N := 3) hx hb hts in_X3 hown hK hP 0 rfl rfl 0 (by decide) (hts _ (bg _ wd_192)) (fun _ h9 => h9) rfl dX3_push_1 ?_
  refine lv_aload_n hx hb dX3_push_4 rfl (lv_at hl 0 rfl) ?_
  refine va_get (D := (dC, dI)) (ci := 7) (v := .int 0) (C := RX3) (T := TX3) (N := 3) hx hb hts in_X3 hown hK hP 0 rfl rfl 1 (by decide) (hts _ (bg _ wd_193)) (fun _ h9 => h9) rfl dX3_push_5 ?_
  refine va_aldq hx hb hK hP 1 3 rfl rfl (show vp_in 0 8 from by unfold vp_in; decide) dX3_push_8 ?_
  refine W.eq (g2 := F0 m 9 ls [.ref (oa 2)]) rfl ?_
  refine lv_aload_n hx hb dX3_push_9 rfl (lv_at hl 1 rfl) ?_
  refine jg2_v (va_runV (As := [.ref (ob 0)]) (rest := []) ⟨hx, hb, hml, hown, hts⟩ (mt_X0_copyFrom l dC dI dA gz (fun k => oa (2 + k)) ob s.heap.size (q 0) b c5 e5) (cwV 1 hts (gi_v bg wd_481 wd_317 wd_318 wd_2 wd_319) rfl rfl rfl hd_X0_copyFrom ⟨Nat.le_of_ble_eq_true rfl, Nat.le_of_ble_eq_true rfl⟩) ⟨pP_blind, va_recv (ci := 4) (q0 := 0) hK (seg_P hP 1 rfl) rfl rfl, pP_pre2 hP hD hS hA hK hN hZ 1 9 rfl rfl (by decide)⟩ rfl rfl hl.1 rfl (lv_room (Nat.le_of_ble_eq_true rfl)) dX3_push_10 ⟨Nat.le_of_ble_eq_true rfl, Nat.le_of_ble_eq_true rfl⟩) hP hD hS hA 1 9 rfl rfl (by decide) (aX0 _ _ _ _) (fun H locs hP hD hS => ?_)
  have hP : va_P (dC, dI) vwCl (([wH dA oa 0 c, wX0 dA (fun k => oa (2 + k)) c5, wX0 dA (fun k => oa (15 + k)) (q 1), wX0 dA (fun k => oa (28 + k)) (q 2), wX0 dA (fun k => oa (41 + k)) (q 3), wX0 dA (fun k => oa (54 + k)) (q 4), wX0 dA (fun k => oa (67 + k)) (q 5), wX0 dA (fun k => oa (80 + k)) (q 6), wX0 dA (fun k => oa (93 + k)) (q 7), wX0 dA ob b] : List va_W).flatten) H := hP
  have hD : va_D A (([wH dA oa 0 c, wX0 dA (fun k => oa (2 + k)) c5, wX0 dA (fun k => oa (15 + k)) (q 1), wX0 dA (fun k => oa (28 + k)) (q 2), wX0 dA (fun k => oa (41 + k)) (q 3), wX0 dA (fun k => oa (54 + k)) (q 4), wX0 dA (fun k => oa (67 + k)) (q 5), wX0 dA (fun k => oa (80 + k)) (q 6), wX0 dA (fun k => oa (93 + k)) (q 7), wX0 dA ob b] : List va_W).flatten) := hD
  refine lv_aload_n hx hb dX3_push_13 rfl (lv_at hl 0 rfl) ?_
  refine lv_aload_n hx hb dX3_push_14 rfl (lv_at hl 0 rfl) ?_
  refine va_get (D := (dC, dI)) (ci := 7) (v := .int 0) (C := RX3) (T := TX3) (N := 3) hx hb hts in_X3 hown hK hP 0 rfl rfl 1 (by decide) (hts _ (bg _ wd_193)) (fun _ h9 => h9) rfl dX3_push_15 ?_
  refine lv_iconst (v := 1) hx hb dX3_push_18 (by decide) ?_
  refine lv_iadd hx hb dX3_push_19 ?_
  refine lv_bipush (v := 8) hx hb dX3_push_20 (by decide) ?_
  refine lv_irem hx hb dX3_push_22 (by decide) ?_
  refine va_put (D := (dC, dI)) (ci := 7) (v := .int ((0 + 1) - (0 + 1) / 8 * 8)) (ty := .int) (C := RX3) (T := TX3) (N := 3) hx hb hts in_X3 tyX3 tyX3_ok nmX3 hown hK hP hD hS 0 rfl rfl 1 (by decide) (hts _ (bg _ wd_193)) (fun _ h9 => h9) rfl (by decide +kernel) rfl rfl (Nat.le_of_ble_eq_true rfl) dX3_push_23 (fun H locs hP hD hS => ?_)
  have hP : va_P (dC, dI) vwCl (([wH dA oa ((0 + 1) - (0 + 1) / 8 * 8) c, wX0 dA (fun k => oa (2 + k)) c5, wX0 dA (fun k => oa (15 + k)) (q 1), wX0 dA (fun k => oa (28 + k)) (q 2), wX0 dA (fun k => oa (41 + k)) (q 3), wX0 dA (fun k => oa (54 + k)) (q 4), wX0 dA (fun k => oa (67 + k)) (q 5), wX0 dA (fun k => oa (80 + k)) (q 6), wX0 dA (fun k => oa (93 + k)) (q 7), wX0 dA ob b] : List va_W).flatten) H := hP
  have hD : va_D A (([wH dA oa ((0 + 1) - (0 + 1) / 8 * 8) c, wX0 dA (fun k => oa (2 + k)) c5, wX0 dA (fun k => oa (15 + k)) (q 1), wX0 dA (fun k => oa (28 + k)) (q 2), wX0 dA (fun k => oa (41 + k)) (q 3), wX0 dA (fun k => oa (54 + k)) (q 4), wX0 dA (fun k => oa (67 + k)) (q 5), wX0 dA (fun k => oa (80 + k)) (q 6), wX0 dA (fun k => oa (93 + k)) (q 7), wX0 dA ob b] : List va_W).flatten) := hD
  refine lv_aload_n hx hb dX3_push_26 rfl (lv_at hl 0 rfl) ?_
  refine lv_bipush (v := 8) hx hb dX3_push_27 (by decide) ?_
  refine lv_aload_n hx hb dX3_push_29 rfl (lv_at hl 0 rfl) ?_
  refine va_get (D := (dC, dI)) (ci := 7) (v := .int c) (C := RX3) (T := TX3) (N := 3) hx hb hts in_X3 hown hK hP 0 rfl rfl 2 (by decide) (hts _ (bg _ wd_194)) (fun _ h9 => h9) rfl dX3_push_30 ?_
  refine lv_iconst (v := 1) hx hb dX3_push_33 (by decide) ?_
  refine lv_iadd hx hb dX3_push_34 ?_
  refine va_mmin hx hb (hml.trans hl.1.symm) hown (hts _ (bg _ wd_482)) (hts _ (bg _ wd_483)) (hts _ (bg _ wd_21)) (hts _ (bg _ wd_484)) (Nat.le_of_ble_eq_true rfl) (Nat.le_of_ble_eq_true rfl) (Nat.le_of_ble_eq_true rfl) (Nat.le_of_ble_eq_true rfl) dX3_push_35 ?_
  refine va_put (D := (dC, dI)) (ci := 7) (v := .int (if (c + 1) < 8 then (c + 1) else 8)) (ty := .int) (C := RX3) (T := TX3) (N := 3) hx hb hts in_X3 tyX3 tyX3_ok nmX3 hown hK hP hD hS 0 rfl rfl 2 (by decide) (hts _ (bg _ wd_194)) (fun _ h9 => h9) rfl (by decide +kernel) rfl rfl (Nat.le_of_ble_eq_true rfl) dX3_push_38 (fun H locs hP hD hS => ?_)
  have hP : va_P (dC, dI) vwCl (([wH dA oa ((0 + 1) - (0 + 1) / 8 * 8) (if (c + 1) < 8 then (c + 1) else 8), wX0 dA (fun k => oa (2 + k)) c5, wX0 dA (fun k => oa (15 + k)) (q 1), wX0 dA (fun k => oa (28 + k)) (q 2), wX0 dA (fun k => oa (41 + k)) (q 3), wX0 dA (fun k => oa (54 + k)) (q 4), wX0 dA (fun k => oa (67 + k)) (q 5), wX0 dA (fun k => oa (80 + k)) (q 6), wX0 dA (fun k => oa (93 + k)) (q 7), wX0 dA ob b] : List va_W).flatten) H := hP
  have hD : va_D A (([wH dA oa ((0 + 1) - (0 + 1) / 8 * 8) (if (c + 1) < 8 then (c + 1) else 8), wX0 dA (fun k => oa (2 + k)) c5, wX0 dA (fun k => oa (15 + k)) (q 1), wX0 dA (fun k => oa (28 + k)) (q 2), wX0 dA (fun k => oa (41 + k)) (q 3), wX0 dA (fun k => oa (54 + k)) (q 4), wX0 dA (fun k => oa (67 + k)) (q 5), wX0 dA (fun k => oa (80 + k)) (q 6), wX0 dA (fun k => oa (93 + k)) (q 7), wX0 dA ob b] : List va_W).flatten) := hD
  exact W.vret hx hb hr (fun t ht hW => ⟨⟨(), rfl, trivial, by rw [ht, wX3, fl_snoc]; exact hP, by rw [wX3, fl_snoc]; exact hD⟩, hS.F ht⟩) hS.2.2 dX3_push_41
set_option maxRecDepth 100000 in
set_option maxHeartbeats 4000000 in
theorem m_X3_push_1 (l : Launch) (dC : Nat → ClassId) (dI : Nat → Nat → Nat) (dA gz : Nat → Nat) (oa ob : Nat → Nat) (sz : Nat) (c : Int32) (q : Nat → SX0) (b : SX0) (c5 : SX0) (e5 : g_X0_copyFrom (q 1) b = some c5) : Met l yX3_push ws_X3_push ({ frames := 30, cells := 0, slots := 0, locals := 1200 } : Room) (va_Pc [.ref (oa 0), .ref (ob 0)] (pP (dC, dI) dA gz (wX3 dA oa (1, c, q) ++ wX0 dA ob b) sz)) (va_Qv (S := Unit) (fun _ => True) (fun _ t => pQ (dC, dI) (va_A (wX3 dA oa (1, c, q) ++ wX0 dA ob b) sz) (wX3 dA oa (((1 + 1) - (1 + 1) / 8 * 8), (if (c + 1) < 8 then (c + 1) else 8), va_up q 1 c5) ++ wX0 dA ob b) t) (va_A (wX3 dA oa (1, c, q) ++ wX0 dA ob b) sz)) 0 0 (va_A (wX3 dA oa (1, c, q) ++ wX0 dA ob b) sz) := by
  refine Met.ofW (cc := cX3_push) (maxL := 2) (ret := none) (by decide) rfl ?_
  intro p e s m args below meth cd s₁ B hml hv
  obtain ⟨rfl, hsz, hP, hK, hD0, hN, hZ⟩ := hv
  have hx := B.exec
  have hb := B.bytes
  have hr := B.returns
  have hts := atoms_spec (ws := ws_X3_push) B.pre
  have hown : s.vm.findClass RX3 = some m.cls := findClass_of_methodNamed B.named
  have hlocks := B.notSynchronized
  subst hsz
  have hD := hD0.self (sz := s.heap.size)
  generalize hAe : va_A (wX3 dA oa (1, c, q) ++ wX0 dA ob b) s.heap.size = A at hD hZ ⊢
  have hA : ∀ q : Nat, s.heap.size ≤ q → A q := fun q h => by rw [← hAe]; exact Or.inr h
  have hS : va_S A s.heap s.heap [] := va_S.rf
  have hl := lv_entry [.ref (oa 0), .ref (ob 0)] (n := 2) (Nat.le_of_ble_eq_true rfl)
  rw [lg_entry_eq]
  generalize (lg_sl [.ref (oa 0), .ref (ob 0)] ++ List.replicate (2 - (lg_sl [.ref (oa 0), .ref (ob 0)]).length) Slot.unset).toArray = ls at hl ⊢
  have hl : lv_has ls 2 [(0, .ref (oa 0)), (1, .ref (ob 0))] := hl
  have in_X3 : ∀ w ∈ wsX30, w ∈ ws_X3_push := fun w h => bg _ (inB_X3 w h)
  have hP : va_P (dC, dI) vwCl ([wH dA oa 1 c, wX0 dA (fun k => oa (2 + k)) (q 0), wX0 dA (fun k => oa (15 + k)) (q 1), wX0 dA (fun k => oa (28 + k)) (q 2), wX0 dA (fun k => oa (41 + k)) (q 3), wX0 dA (fun k => oa (54 + k)) (q 4), wX0 dA (fun k => oa (67 + k)) (q 5), wX0 dA (fun k => oa (80 + k)) (q 6), wX0 dA (fun k => oa (93 + k)) (q 7), wX0 dA ob b] : List va_W).flatten s.heap := by have h := hP; rw [wX3, fl_snoc] at h; exact h
  have hD : va_D A ([wH dA oa 1 c, wX0 dA (fun k => oa (2 + k)) (q 0), wX0 dA (fun k => oa (15 + k)) (q 1), wX0 dA (fun k => oa (28 + k)) (q 2), wX0 dA (fun k => oa (41 + k)) (q 3), wX0 dA (fun k => oa (54 + k)) (q 4), wX0 dA (fun k => oa (67 + k)) (q 5), wX0 dA (fun k => oa (80 + k)) (q 6), wX0 dA (fun k => oa (93 + k)) (q 7), wX0 dA ob b] : List va_W).flatten := by have h := hD; rw [wX3, fl_snoc] at h; exact h
  refine lv_aload_n hx hb dX3_push_0 rfl (lv_at hl 0 rfl) ?_
  refine va_get (D := (dC, dI)) (ci := 7) (v := .ref (oa 1)) (C := RX3) (T := TX3) (N := 3) hx hb hts in_X3 hown hK hP 0 rfl rfl 0 (by decide) (hts _ (bg _ wd_192)) (fun _ h9 => h9) rfl dX3_push_1 ?_
  refine lv_aload_n hx hb dX3_push_4 rfl (lv_at hl 0 rfl) ?_
  refine va_get (D := (dC, dI)) (ci := 7) (v := .int 1) (C := RX3) (T := TX3) (N := 3) hx hb hts in_X3 hown hK hP 0 rfl rfl 1 (by decide) (hts _ (bg _ wd_193)) (fun _ h9 => h9) rfl dX3_push_5 ?_
  refine va_aldq hx hb hK hP 1 3 rfl rfl (show vp_in 1 8 from by unfold vp_in; decide) dX3_push_8 ?_
  refine W.eq (g2 := F0 m 9 ls [.ref (oa 15)]) rfl ?_
  refine lv_aload_n hx hb dX3_push_9 rfl (lv_at hl 1 rfl) ?_
  refine jg2_v (va_runV (As := [.ref (ob 0)]) (rest := []) ⟨hx, hb, hml, hown, hts⟩ (mt_X0_copyFrom l dC dI dA gz (fun k => oa (15 + k)) ob s.heap.size (q 1) b c5 e5) (cwV 1 hts (gi_v bg wd_481 wd_317 wd_318 wd_2 wd_319) rfl rfl rfl hd_X0_copyFrom ⟨Nat.le_of_ble_eq_true rfl, Nat.le_of_ble_eq_true rfl⟩) ⟨pP_blind, va_recv (ci := 4) (q0 := 0) hK (seg_P hP 2 rfl) rfl rfl, pP_pre2 hP hD hS hA hK hN hZ 2 9 rfl rfl (by decide)⟩ rfl rfl hl.1 rfl (lv_room (Nat.le_of_ble_eq_true rfl)) dX3_push_10 ⟨Nat.le_of_ble_eq_true rfl, Nat.le_of_ble_eq_true rfl⟩) hP hD hS hA 2 9 rfl rfl (by decide) (aX0 _ _ _ _) (fun H locs hP hD hS => ?_)
  have hP : va_P (dC, dI) vwCl (([wH dA oa 1 c, wX0 dA (fun k => oa (2 + k)) (q 0), wX0 dA (fun k => oa (15 + k)) c5, wX0 dA (fun k => oa (28 + k)) (q 2), wX0 dA (fun k => oa (41 + k)) (q 3), wX0 dA (fun k => oa (54 + k)) (q 4), wX0 dA (fun k => oa (67 + k)) (q 5), wX0 dA (fun k => oa (80 + k)) (q 6), wX0 dA (fun k => oa (93 + k)) (q 7), wX0 dA ob b] : List va_W).flatten) H := hP
  have hD : va_D A (([wH dA oa 1 c, wX0 dA (fun k => oa (2 + k)) (q 0), wX0 dA (fun k => oa (15 + k)) c5, wX0 dA (fun k => oa (28 + k)) (q 2), wX0 dA (fun k => oa (41 + k)) (q 3), wX0 dA (fun k => oa (54 + k)) (q 4), wX0 dA (fun k => oa (67 + k)) (q 5), wX0 dA (fun k => oa (80 + k)) (q 6), wX0 dA (fun k => oa (93 + k)) (q 7), wX0 dA ob b] : List va_W).flatten) := hD
  refine lv_aload_n hx hb dX3_push_13 rfl (lv_at hl 0 rfl) ?_
  refine lv_aload_n hx hb dX3_push_14 rfl (lv_at hl 0 rfl) ?_
  refine va_get (D := (dC, dI)) (ci := 7) (v := .int 1) (C := RX3) (T := TX3) (N := 3) hx hb hts in_X3 hown hK hP 0 rfl rfl 1 (by decide) (hts _ (bg _ wd_193)) (fun _ h9 => h9) rfl dX3_push_15 ?_
  refine lv_iconst (v := 1) hx hb dX3_push_18 (by decide) ?_
  refine lv_iadd hx hb dX3_push_19 ?_
  refine lv_bipush (v := 8) hx hb dX3_push_20 (by decide) ?_
  refine lv_irem hx hb dX3_push_22 (by decide) ?_
  refine va_put (D := (dC, dI)) (ci := 7) (v := .int ((1 + 1) - (1 + 1) / 8 * 8)) (ty := .int) (C := RX3) (T := TX3) (N := 3) hx hb hts in_X3 tyX3 tyX3_ok nmX3 hown hK hP hD hS 0 rfl rfl 1 (by decide) (hts _ (bg _ wd_193)) (fun _ h9 => h9) rfl (by decide +kernel) rfl rfl (Nat.le_of_ble_eq_true rfl) dX3_push_23 (fun H locs hP hD hS => ?_)
  have hP : va_P (dC, dI) vwCl (([wH dA oa ((1 + 1) - (1 + 1) / 8 * 8) c, wX0 dA (fun k => oa (2 + k)) (q 0), wX0 dA (fun k => oa (15 + k)) c5, wX0 dA (fun k => oa (28 + k)) (q 2), wX0 dA (fun k => oa (41 + k)) (q 3), wX0 dA (fun k => oa (54 + k)) (q 4), wX0 dA (fun k => oa (67 + k)) (q 5), wX0 dA (fun k => oa (80 + k)) (q 6), wX0 dA (fun k => oa (93 + k)) (q 7), wX0 dA ob b] : List va_W).flatten) H := hP
  have hD : va_D A (([wH dA oa ((1 + 1) - (1 + 1) / 8 * 8) c, wX0 dA (fun k => oa (2 + k)) (q 0), wX0 dA (fun k => oa (15 + k)) c5, wX0 dA (fun k => oa (28 + k)) (q 2), wX0 dA (fun k => oa (41 + k)) (q 3), wX0 dA (fun k => oa (54 + k)) (q 4), wX0 dA (fun k => oa (67 + k)) (q 5), wX0 dA (fun k => oa (80 + k)) (q 6), wX0 dA (fun k => oa (93 + k)) (q 7), wX0 dA ob b] : List va_W).flatten) := hD
  refine lv_aload_n hx hb dX3_push_26 rfl (lv_at hl 0 rfl) ?_
  refine lv_bipush (v := 8) hx hb dX3_push_27 (by decide) ?_
  refine lv_aload_n hx hb dX3_push_29 rfl (lv_at hl 0 rfl) ?_
  refine va_get (D := (dC, dI)) (ci := 7) (v := .int c) (C := RX3) (T := TX3) (N := 3) hx hb hts in_X3 hown hK hP 0 rfl rfl 2 (by decide) (hts _ (bg _ wd_194)) (fun _ h9 => h9) rfl dX3_push_30 ?_
  refine lv_iconst (v := 1) hx hb dX3_push_33 (by decide) ?_
  refine lv_iadd hx hb dX3_push_34 ?_
  refine va_mmin hx hb (hml.trans hl.1.symm) hown (hts _ (bg _ wd_482)) (hts _ (bg _ wd_483)) (hts _ (bg _ wd_21)) (hts _ (bg _ wd_484)) (Nat.le_of_ble_eq_true rfl) (Nat.le_of_ble_eq_true rfl) (Nat.le_of_ble_eq_true rfl) (Nat.le_of_ble_eq_true rfl) dX3_push_35 ?_
  refine va_put (D := (dC, dI)) (ci := 7) (v := .int (if (c + 1) < 8 then (c + 1) else 8)) (ty := .int) (C := RX3) (T := TX3) (N := 3) hx hb hts in_X3 tyX3 tyX3_ok nmX3 hown hK hP hD hS 0 rfl rfl 2 (by decide) (hts _ (bg _ wd_194)) (fun _ h9 => h9) rfl (by decide +kernel) rfl rfl (Nat.le_of_ble_eq_true rfl) dX3_push_38 (fun H locs hP hD hS => ?_)
  have hP : va_P (dC, dI) vwCl (([wH dA oa ((1 + 1) - (1 + 1) / 8 * 8) (if (c + 1) < 8 then (c + 1) else 8), wX0 dA (fun k => oa (2 + k)) (q 0), wX0 dA (fun k => oa (15 + k)) c5, wX0 dA (fun k => oa (28 + k)) (q 2), wX0 dA (fun k => oa (41 + k)) (q 3), wX0 dA (fun k => oa (54 + k)) (q 4), wX0 dA (fun k => oa (67 + k)) (q 5), wX0 dA (fun k => oa (80 + k)) (q 6), wX0 dA (fun k => oa (93 + k)) (q 7), wX0 dA ob b] : List va_W).flatten) H := hP
  have hD : va_D A (([wH dA oa ((1 + 1) - (1 + 1) / 8 * 8) (if (c + 1) < 8 then (c + 1) else 8), wX0 dA (fun k => oa (2 + k)) (q 0), wX0 dA (fun k => oa (15 + k)) c5, wX0 dA (fun k => oa (28 + k)) (q 2), wX0 dA (fun k => oa (41 + k)) (q 3), wX0 dA (fun k => oa (54 + k)) (q 4), wX0 dA (fun k => oa (67 + k)) (q 5), wX0 dA (fun k => oa (80 + k)) (q 6), wX0 dA (fun k => oa (93 + k)) (q 7), wX0 dA ob b] : List va_W).flatten) := hD
  exact W.vret hx hb hr (fun t ht hW => ⟨⟨(), rfl, trivial, by rw [ht, wX3, fl_snoc]; exact hP, by rw [wX3, fl_snoc]; exact hD⟩, hS.F ht⟩) hS.2.2 dX3_push_41
set_option maxRecDepth 100000 in
set_option maxHeartbeats 4000000 in
theorem m_X3_push_2 (l : Launch) (dC : Nat → ClassId) (dI : Nat → Nat → Nat) (dA gz : Nat → Nat) (oa ob : Nat → Nat) (sz : Nat) (c : Int32) (q : Nat → SX0) (b : SX0) (c5 : SX0) (e5 : g_X0_copyFrom (q 2) b = some c5) : Met l yX3_push ws_X3_push ({ frames := 30, cells := 0, slots := 0, locals := 1200 } : Room) (va_Pc [.ref (oa 0), .ref (ob 0)] (pP (dC, dI) dA gz (wX3 dA oa (2, c, q) ++ wX0 dA ob b) sz)) (va_Qv (S := Unit) (fun _ => True) (fun _ t => pQ (dC, dI) (va_A (wX3 dA oa (2, c, q) ++ wX0 dA ob b) sz) (wX3 dA oa (((2 + 1) - (2 + 1) / 8 * 8), (if (c + 1) < 8 then (c + 1) else 8), va_up q 2 c5) ++ wX0 dA ob b) t) (va_A (wX3 dA oa (2, c, q) ++ wX0 dA ob b) sz)) 0 0 (va_A (wX3 dA oa (2, c, q) ++ wX0 dA ob b) sz) := by
  refine Met.ofW (cc := cX3_push) (maxL := 2) (ret := none) (by decide) rfl ?_
  intro p e s m args below meth cd s₁ B hml hv
  obtain ⟨rfl, hsz, hP, hK, hD0, hN, hZ⟩ := hv
  have hx := B.exec
  have hb := B.bytes
  have hr := B.returns
  have hts := atoms_spec (ws := ws_X3_push) B.pre
  have hown : s.vm.findClass RX3 = some m.cls := findClass_of_methodNamed B.named
  have hlocks := B.notSynchronized
  subst hsz
  have hD := hD0.self (sz := s.heap.size)
  generalize hAe : va_A (wX3 dA oa (2, c, q) ++ wX0 dA ob b) s.heap.size = A at hD hZ ⊢
  have hA : ∀ q : Nat, s.heap.size ≤ q → A q := fun q h => by rw [← hAe]; exact Or.inr h
  have hS : va_S A s.heap s.heap [] := va_S.rf
  have hl := lv_entry [.ref (oa 0), .ref (ob 0)] (n := 2) (Nat.le_of_ble_eq_true rfl)
  rw [lg_entry_eq]
  generalize (lg_sl [.ref (oa 0), .ref (ob 0)] ++ List.replicate (2 - (lg_sl [.ref (oa 0), .ref (ob 0)]).length) Slot.unset).toArray = ls at hl ⊢
  have hl : lv_has ls 2 [(0, .ref (oa 0)), (1, .ref (ob 0))] := hl
  have in_X3 : ∀ w ∈ wsX30, w ∈ ws_X3_push := fun w h => bg _ (inB_X3 w h)
  have hP : va_P (dC, dI) vwCl ([wH dA oa 2 c, wX0 dA (fun k => oa (2 + k)) (q 0), wX0 dA (fun k => oa (15 + k)) (q 1), wX0 dA (fun k => oa (28 + k)) (q 2), wX0 dA (fun k => oa (41 + k)) (q 3), wX0 dA (fun k => oa (54 + k)) (q 4), wX0 dA (fun k => oa (67 + k)) (q 5), wX0 dA (fun k => oa (80 + k)) (q 6), wX0 dA (fun k => oa (93 + k)) (q 7), wX0 dA ob b] : List va_W).flatten s.heap := by have h := hP; rw [wX3, fl_snoc] at h; exact h
  have hD : va_D A ([wH dA oa 2 c, wX0 dA (fun k => oa (2 + k)) (q 0), wX0 dA (fun k => oa (15 + k)) (q 1), wX0 dA (fun k => oa (28 + k)) (q 2), wX0 dA (fun k => oa (41 + k)) (q 3), wX0 dA (fun k => oa (54 + k)) (q 4), wX0 dA (fun k => oa (67 + k)) (q 5), wX0 dA (fun k => oa (80 + k)) (q 6), wX0 dA (fun k => oa (93 + k)) (q 7), wX0 dA ob b] : List va_W).flatten := by have h := hD; rw [wX3, fl_snoc] at h; exact h
  refine lv_aload_n hx hb dX3_push_0 rfl (lv_at hl 0 rfl) ?_
  refine va_get (D := (dC, dI)) (ci := 7) (v := .ref (oa 1)) (C := RX3) (T := TX3) (N := 3) hx hb hts in_X3 hown hK hP 0 rfl rfl 0 (by decide) (hts _ (bg _ wd_192)) (fun _ h9 => h9) rfl dX3_push_1 ?_
  refine lv_aload_n hx hb dX3_push_4 rfl (lv_at hl 0 rfl) ?_
  refine va_get (D := (dC, dI)) (ci := 7) (v := .int 2) (C := RX3) (T := TX3) (N := 3) hx hb hts in_X3 hown hK hP 0 rfl rfl 1 (by decide) (hts _ (bg _ wd_193)) (fun _ h9 => h9) rfl dX3_push_5 ?_
  refine va_aldq hx hb hK hP 1 3 rfl rfl (show vp_in 2 8 from by unfold vp_in; decide) dX3_push_8 ?_
  refine W.eq (g2 := F0 m 9 ls [.ref (oa 28)]) rfl ?_
  refine lv_aload_n hx hb dX3_push_9 rfl (lv_at hl 1 rfl) ?_
  refine jg2_v (va_runV (As := [.ref (ob 0)]) (rest := []) ⟨hx, hb, hml, hown, hts⟩ (mt_X0_copyFrom l dC dI dA gz (fun k => oa (28 + k)) ob s.heap.size (q 2) b c5 e5) (cwV 1 hts (gi_v bg wd_481 wd_317 wd_318 wd_2 wd_319) rfl rfl rfl hd_X0_copyFrom ⟨Nat.le_of_ble_eq_true rfl, Nat.le_of_ble_eq_true rfl⟩) ⟨pP_blind, va_recv (ci := 4) (q0 := 0) hK (seg_P hP 3 rfl) rfl rfl, pP_pre2 hP hD hS hA hK hN hZ 3 9 rfl rfl (by decide)⟩ rfl rfl hl.1 rfl (lv_room (Nat.le_of_ble_eq_true rfl)) dX3_push_10 ⟨Nat.le_of_ble_eq_true rfl, Nat.le_of_ble_eq_true rfl⟩) hP hD hS hA 3 9 rfl rfl (by decide) (aX0 _ _ _ _) (fun H locs hP hD hS => ?_)
  have hP : va_P (dC, dI) vwCl (([wH dA oa 2 c, wX0 dA (fun k => oa (2 + k)) (q 0), wX0 dA (fun k => oa (15 + k)) (q 1), wX0 dA (fun k => oa (28 + k)) c5, wX0 dA (fun k => oa (41 + k)) (q 3), wX0 dA (fun k => oa (54 + k)) (q 4), wX0 dA (fun k => oa (67 + k)) (q 5), wX0 dA (fun k => oa (80 + k)) (q 6), wX0 dA (fun k => oa (93 + k)) (q 7), wX0 dA ob b] : List va_W).flatten) H := hP
  have hD : va_D A (([wH dA oa 2 c, wX0 dA (fun k => oa (2 + k)) (q 0), wX0 dA (fun k => oa (15 + k)) (q 1), wX0 dA (fun k => oa (28 + k)) c5, wX0 dA (fun k => oa (41 + k)) (q 3), wX0 dA (fun k => oa (54 + k)) (q 4), wX0 dA (fun k => oa (67 + k)) (q 5), wX0 dA (fun k => oa (80 + k)) (q 6), wX0 dA (fun k => oa (93 + k)) (q 7), wX0 dA ob b] : List va_W).flatten) := hD
  refine lv_aload_n hx hb dX3_push_13 rfl (lv_at hl 0 rfl) ?_
  refine lv_aload_n hx hb dX3_push_14 rfl (lv_at hl 0 rfl) ?_
  refine va_get (D := (dC, dI)) (ci := 7) (v := .int 2) (C := RX3) (T := TX3) (N := 3) hx hb hts in_X3 hown hK hP 0 rfl rfl 1 (by decide) (hts _ (bg _ wd_193)) (fun _ h9 => h9) rfl dX3_push_15 ?_
  refine lv_iconst (v := 1) hx hb dX3_push_18 (by decide) ?_
  refine lv_iadd hx hb dX3_push_19 ?_
  refine lv_bipush (v := 8) hx hb dX3_push_20 (by decide) ?_
  refine lv_irem hx hb dX3_push_22 (by decide) ?_
  refine va_put (D := (dC, dI)) (ci := 7) (v := .int ((2 + 1) - (2 + 1) / 8 * 8)) (ty := .int) (C := RX3) (T := TX3) (N := 3) hx hb hts in_X3 tyX3 tyX3_ok nmX3 hown hK hP hD hS 0 rfl rfl 1 (by decide) (hts _ (bg _ wd_193)) (fun _ h9 => h9) rfl (by decide +kernel) rfl rfl (Nat.le_of_ble_eq_true rfl) dX3_push_23 (fun H locs hP hD hS => ?_)
  have hP : va_P (dC, dI) vwCl (([wH dA oa ((2 + 1) - (2 + 1) / 8 * 8) c, wX0 dA (fun k => oa (2 + k)) (q 0), wX0 dA (fun k => oa (15 + k)) (q 1), wX0 dA (fun k => oa (28 + k)) c5, wX0 dA (fun k => oa (41 + k)) (q 3), wX0 dA (fun k => oa (54 + k)) (q 4), wX0 dA (fun k => oa (67 + k)) (q 5), wX0 dA (fun k => oa (80 + k)) (q 6), wX0 dA (fun k => oa (93 + k)) (q 7), wX0 dA ob b] : List va_W).flatten) H := hP
  have hD : va_D A (([wH dA oa ((2 + 1) - (2 + 1) / 8 * 8) c, wX0 dA (fun k => oa (2 + k)) (q 0), wX0 dA (fun k => oa (15 + k)) (q 1), wX0 dA (fun k => oa (28 + k)) c5, wX0 dA (fun k => oa (41 + k)) (q 3), wX0 dA (fun k => oa (54 + k)) (q 4), wX0 dA (fun k => oa (67 + k)) (q 5), wX0 dA (fun k => oa (80 + k)) (q 6), wX0 dA (fun k => oa (93 + k)) (q 7), wX0 dA ob b] : List va_W).flatten) := hD
  refine lv_aload_n hx hb dX3_push_26 rfl (lv_at hl 0 rfl) ?_
  refine lv_bipush (v := 8) hx hb dX3_push_27 (by decide) ?_
  refine lv_aload_n hx hb dX3_push_29 rfl (lv_at hl 0 rfl) ?_
  refine va_get (D := (dC, dI)) (ci := 7) (v := .int c) (C := RX3) (T := TX3) (N := 3) hx hb hts in_X3 hown hK hP 0 rfl rfl 2 (by decide) (hts _ (bg _ wd_194)) (fun _ h9 => h9) rfl dX3_push_30 ?_
  refine lv_iconst (v := 1) hx hb dX3_push_33 (by decide) ?_
  refine lv_iadd hx hb dX3_push_34 ?_
  refine va_mmin hx hb (hml.trans hl.1.symm) hown (hts _ (bg _ wd_482)) (hts _ (bg _ wd_483)) (hts _ (bg _ wd_21)) (hts _ (bg _ wd_484)) (Nat.le_of_ble_eq_true rfl) (Nat.le_of_ble_eq_true rfl) (Nat.le_of_ble_eq_true rfl) (Nat.le_of_ble_eq_true rfl) dX3_push_35 ?_
  refine va_put (D := (dC, dI)) (ci := 7) (v := .int (if (c + 1) < 8 then (c + 1) else 8)) (ty := .int) (C := RX3) (T := TX3) (N := 3) hx hb hts in_X3 tyX3 tyX3_ok nmX3 hown hK hP hD hS 0 rfl rfl 2 (by decide) (hts _ (bg _ wd_194)) (fun _ h9 => h9) rfl (by decide +kernel) rfl rfl (Nat.le_of_ble_eq_true rfl) dX3_push_38 (fun H locs hP hD hS => ?_)
  have hP : va_P (dC, dI) vwCl (([wH dA oa ((2 + 1) - (2 + 1) / 8 * 8) (if (c + 1) < 8 then (c + 1) else 8), wX0 dA (fun k => oa (2 + k)) (q 0), wX0 dA (fun k => oa (15 + k)) (q 1), wX0 dA (fun k => oa (28 + k)) c5, wX0 dA (fun k => oa (41 + k)) (q 3), wX0 dA (fun k => oa (54 + k)) (q 4), wX0 dA (fun k => oa (67 + k)) (q 5), wX0 dA (fun k => oa (80 + k)) (q 6), wX0 dA (fun k => oa (93 + k)) (q 7), wX0 dA ob b] : List va_W).flatten) H := hP
  have hD : va_D A (([wH dA oa ((2 + 1) - (2 + 1) / 8 * 8) (if (c + 1) < 8 then (c + 1) else 8), wX0 dA (fun k => oa (2 + k)) (q 0), wX0 dA (fun k => oa (15 + k)) (q 1), wX0 dA (fun k => oa (28 + k)) c5, wX0 dA (fun k => oa (41 + k)) (q 3), wX0 dA (fun k => oa (54 + k)) (q 4), wX0 dA (fun k => oa (67 + k)) (q 5), wX0 dA (fun k => oa (80 + k)) (q 6), wX0 dA (fun k => oa (93 + k)) (q 7), wX0 dA ob b] : List va_W).flatten) := hD
  exact W.vret hx hb hr (fun t ht hW => ⟨⟨(), rfl, trivial, by rw [ht, wX3, fl_snoc]; exact hP, by rw [wX3, fl_snoc]; exact hD⟩, hS.F ht⟩) hS.2.2 dX3_push_41
set_option maxRecDepth 100000 in
set_option maxHeartbeats 4000000 in
theorem m_X3_push_3 (l : Launch) (dC : Nat → ClassId) (dI : Nat → Nat → Nat) (dA gz : Nat → Nat) (oa ob : Nat → Nat) (sz : Nat) (c : Int32) (q : Nat → SX0) (b : SX0) (c5 : SX0) (e5 : g_X0_copyFrom (q 3) b = some c5) : Met l yX3_push ws_X3_push ({ frames := 30, cells := 0, slots := 0, locals := 1200 } : Room) (va_Pc [.ref (oa 0), .ref (ob 0)] (pP (dC, dI) dA gz (wX3 dA oa (3, c, q) ++ wX0 dA ob b) sz)) (va_Qv (S := Unit) (fun _ => True) (fun _ t => pQ (dC, dI) (va_A (wX3 dA oa (3, c, q) ++ wX0 dA ob b) sz) (wX3 dA oa (((3 + 1) - (3 + 1) / 8 * 8), (if (c + 1) < 8 then (c + 1) else 8), va_up q 3 c5) ++ wX0 dA ob b) t) (va_A (wX3 dA oa (3, c, q) ++ wX0 dA ob b) sz)) 0 0 (va_A (wX3 dA oa (3, c, q) ++ wX0 dA ob b) sz) := by
  refine Met.ofW (cc := cX3_push) (maxL := 2) (ret := none) (by decide) rfl ?_
  intro p e s m args below meth cd s₁ B hml hv
  obtain ⟨rfl, hsz, hP, hK, hD0, hN, hZ⟩ := hv
  have hx := B.exec
  have hb := B.bytes
  have hr := B.returns
  have hts := atoms_spec (ws := ws_X3_push) B.pre
  have hown : s.vm.findClass RX3 = some m.cls := findClass_of_methodNamed B.named
  have hlocks := B.notSynchronized
  subst hsz
  have hD := hD0.self (sz := s.heap.size)
  generalize hAe : va_A (wX3 dA oa (3, c, q) ++ wX0 dA ob b) s.heap.size = A at hD hZ ⊢
  have hA : ∀ q : Nat, s.heap.size ≤ q → A q := fun q h => by rw [← hAe]; exact Or.inr h
  have hS : va_S A s.heap s.heap [] := va_S.rf
  have hl := lv_entry [.ref (oa 0), .ref (ob 0)] (n := 2) (Nat.le_of_ble_eq_true rfl)
  rw [lg_entry_eq]
  generalize (lg_sl [.ref (oa 0), .ref (ob 0)] ++ List.replicate (2 - (lg_sl [.ref (oa 0), .ref (ob 0)]).length) Slot.unset).toArray = ls at hl ⊢
  have hl : lv_has ls 2 [(0, .ref (oa 0)), (1, .ref (ob 0))] := hl
  have in_X3 : ∀ w ∈ wsX30, w ∈ ws_X3_push := fun w h => bg _ (inB_X3 w h)
  have hP : va_P (dC, dI) vwCl ([wH dA oa 3 c, wX0 dA (fun k => oa (2 + k)) (q 0), wX0 dA (fun k => oa (15 + k)) (q 1), wX0 dA (fun k => oa (28 + k)) (q 2), wX0 dA (fun k => oa (41 + k)) (q 3), wX0 dA (fun k => oa (54 + k)) (q 4), wX0 dA (fun k => oa (67 + k)) (q 5), wX0 dA (fun k => oa (80 + k)) (q 6), wX0 dA (fun k => oa (93 + k)) (q 7), wX0 dA ob b] : List va_W).flatten s.heap := by have h := hP; rw [wX3, fl_snoc] at h; exact h
  have hD : va_D A ([wH dA oa 3 c, wX0 dA (fun k => oa (2 + k)) (q 0), wX0 dA (fun k => oa (15 + k)) (q 1), wX0 dA (fun k => oa (28 + k)) (q 2), wX0 dA (fun k => oa (41 + k)) (q 3), wX0 dA (fun k => oa (54 + k)) (q 4), wX0 dA (fun k => oa (67 + k)) (q 5), wX0 dA (fun k => oa (80 + k)) (q 6), wX0 dA (fun k => oa (93 + k)) (q 7), wX0 dA ob b] : List va_W).flatten := by have h := hD; rw [wX3, fl_snoc] at h; exact h
  refine lv_aload_n hx hb dX3_push_0 rfl (lv_at hl 0 rfl) ?_
  refine va_get (D := (dC, dI)) (ci := 7) (v := .ref (oa 1)) (C := RX3) (T := TX3) (N := 3) hx hb hts in_X3 hown hK hP 0 rfl rfl 0 (by decide) (hts _ (bg _ wd_192)) (fun _ h9 => h9) rfl dX3_push_1 ?_
  refine lv_aload_n hx hb dX3_push_4 rfl (lv_at hl 0 rfl) ?_
  refine va_get (D := (dC, dI)) (ci := 7) (v := .int 3) (C := RX3) (T := TX3) (N := 3) hx hb hts in_X3 hown hK hP 0 rfl rfl 1 (by decide) (hts _ (bg _ wd_193)) (fun _ h9 => h9) rfl dX3_push_5 ?_
  refine va_aldq hx hb hK hP 1 3 rfl rfl (show vp_in 3 8 from by unfold vp_in; decide) dX3_push_8 ?_
  refine W.eq (g2 := F0 m 9 ls [.ref (oa 41)]) rfl ?_
  refine lv_aload_n hx hb dX3_push_9 rfl (lv_at hl 1 rfl) ?_
  refine jg2_v (va_runV (As := [.ref (ob 0)]) (rest := []) ⟨hx, hb, hml, hown, hts⟩ (mt_X0_copyFrom l dC dI dA gz (fun k => oa (41 + k)) ob s.heap.size (q 3) b c5 e5) (cwV 1 hts (gi_v bg wd_481 wd_317 wd_318 wd_2 wd_319) rfl rfl rfl hd_X0_copyFrom ⟨Nat.le_of_ble_eq_true rfl, Nat.le_of_ble_eq_true rfl⟩) ⟨pP_blind, va_recv (ci := 4) (q0 := 0) hK (seg_P hP 4 rfl) rfl rfl, pP_pre2 hP hD hS hA hK hN hZ 4 9 rfl rfl (by decide)⟩ rfl rfl hl.1 rfl (lv_room (Nat.le_of_ble_eq_true rfl)) dX3_push_10 ⟨Nat.le_of_ble_eq_true rfl, Nat.le_of_ble_eq_true rfl⟩) hP hD hS hA 4 9 rfl rfl (by decide) (aX0 _ _ _ _) (fun H locs hP hD hS => ?_)
  have hP : va_P (dC, dI) vwCl (([wH dA oa 3 c, wX0 dA (fun k => oa (2 + k)) (q 0), wX0 dA (fun k => oa (15 + k)) (q 1), wX0 dA (fun k => oa (28 + k)) (q 2), wX0 dA (fun k => oa (41 + k)) c5, wX0 dA (fun k => oa (54 + k)) (q 4), wX0 dA (fun k => oa (67 + k)) (q 5), wX0 dA (fun k => oa (80 + k)) (q 6), wX0 dA (fun k => oa (93 + k)) (q 7), wX0 dA ob b] : List va_W).flatten) H := hP
  have hD : va_D A (([wH dA oa 3 c, wX0 dA (fun k => oa (2 + k)) (q 0), wX0 dA (fun k => oa (15 + k)) (q 1), wX0 dA (fun k => oa (28 + k)) (q 2), wX0 dA (fun k => oa (41 + k)) c5, wX0 dA (fun k => oa (54 + k)) (q 4), wX0 dA (fun k => oa (67 + k)) (q 5), wX0 dA (fun k => oa (80 + k)) (q 6), wX0 dA (fun k => oa (93 + k)) (q 7), wX0 dA ob b] : List va_W).flatten) := hD
  refine lv_aload_n hx hb dX3_push_13 rfl (lv_at hl 0 rfl) ?_
  refine lv_aload_n hx hb dX3_push_14 rfl (lv_at hl 0 rfl) ?_
  refine va_get (D := (dC, dI)) (ci := 7) (v := .int 3) (C := RX3) (T := TX3) (N := 3) hx hb hts in_X3 hown hK hP 0 rfl rfl 1 (by decide) (hts _ (bg _ wd_193)) (fun _ h9 => h9) rfl dX3_push_15 ?_
  refine lv_iconst (v := 1) hx hb dX3_push_18 (by decide) ?_
  refine lv_iadd hx hb dX3_push_19 ?_
  refine lv_bipush (v := 8) hx hb dX3_push_20 (by decide) ?_
  refine lv_irem hx hb dX3_push_22 (by decide) ?_
  refine va_put (D := (dC, dI)) (ci := 7) (v := .int ((3 + 1) - (3 + 1) / 8 * 8)) (ty := .int) (C := RX3) (T := TX3) (N := 3) hx hb hts in_X3 tyX3 tyX3_ok nmX3 hown hK hP hD hS 0 rfl rfl 1 (by decide) (hts _ (bg _ wd_193)) (fun _ h9 => h9) rfl (by decide +kernel) rfl rfl (Nat.le_of_ble_eq_true rfl) dX3_push_23 (fun H locs hP hD hS => ?_)
  have hP : va_P (dC, dI) vwCl (([wH dA oa ((3 + 1) - (3 + 1) / 8 * 8) c, wX0 dA (fun k => oa (2 + k)) (q 0), wX0 dA (fun k => oa (15 + k)) (q 1), wX0 dA (fun k => oa (28 + k)) (q 2), wX0 dA (fun k => oa (41 + k)) c5, wX0 dA (fun k => oa (54 + k)) (q 4), wX0 dA (fun k => oa (67 + k)) (q 5), wX0 dA (fun k => oa (80 + k)) (q 6), wX0 dA (fun k => oa (93 + k)) (q 7), wX0 dA ob b] : List va_W).flatten) H := hP
  have hD : va_D A (([wH dA oa ((3 + 1) - (3 + 1) / 8 * 8) c, wX0 dA (fun k => oa (2 + k)) (q 0), wX0 dA (fun k => oa (15 + k)) (q 1), wX0 dA (fun k => oa (28 + k)) (q 2), wX0 dA (fun k => oa (41 + k)) c5, wX0 dA (fun k => oa (54 + k)) (q 4), wX0 dA (fun k => oa (67 + k)) (q 5), wX0 dA (fun k => oa (80 + k)) (q 6), wX0 dA (fun k => oa (93 + k)) (q 7), wX0 dA ob b] : List va_W).flatten) := hD
  refine lv_aload_n hx hb dX3_push_26 rfl (lv_at hl 0 rfl) ?_
  refine lv_bipush (v := 8) hx hb dX3_push_27 (by decide) ?_
  refine lv_aload_n hx hb dX3_push_29 rfl (lv_at hl 0 rfl) ?_
  refine va_get (D := (dC, dI)) (ci := 7) (v := .int c) (C := RX3) (T := TX3) (N := 3) hx hb hts in_X3 hown hK hP 0 rfl rfl 2 (by decide) (hts _ (bg _ wd_194)) (fun _ h9 => h9) rfl dX3_push_30 ?_
  refine lv_iconst (v := 1) hx hb dX3_push_33 (by decide) ?_
  refine lv_iadd hx hb dX3_push_34 ?_
  refine va_mmin hx hb (hml.trans hl.1.symm) hown (hts _ (bg _ wd_482)) (hts _ (bg _ wd_483)) (hts _ (bg _ wd_21)) (hts _ (bg _ wd_484)) (Nat.le_of_ble_eq_true rfl) (Nat.le_of_ble_eq_true rfl) (Nat.le_of_ble_eq_true rfl) (Nat.le_of_ble_eq_true rfl) dX3_push_35 ?_
  refine va_put (D := (dC, dI)) (ci := 7) (v := .int (if (c + 1) < 8 then (c + 1) else 8)) (ty := .int) (C := RX3) (T := TX3) (N := 3) hx hb hts in_X3 tyX3 tyX3_ok nmX3 hown hK hP hD hS 0 rfl rfl 2 (by decide) (hts _ (bg _ wd_194)) (fun _ h9 => h9) rfl (by decide +kernel) rfl rfl (Nat.le_of_ble_eq_true rfl) dX3_push_38 (fun H locs hP hD hS => ?_)
  have hP : va_P (dC, dI) vwCl (([wH dA oa ((3 + 1) - (3 + 1) / 8 * 8) (if (c + 1) < 8 then (c + 1) else 8), wX0 dA (fun k => oa (2 + k)) (q 0), wX0 dA (fun k => oa (15 + k)) (q 1), wX0 dA (fun k => oa (28 + k)) (q 2), wX0 dA (fun k => oa (41 + k)) c5, wX0 dA (fun k => oa (54 + k)) (q 4), wX0 dA (fun k => oa (67 + k)) (q 5), wX0 dA (fun k => oa (80 + k)) (q 6), wX0 dA (fun k => oa (93 + k)) (q 7), wX0 dA ob b] : List va_W).flatten) H := hP
  have hD : va_D A (([wH dA oa ((3 + 1) - (3 + 1) / 8 * 8) (if (c + 1) < 8 then (c + 1) else 8), wX0 dA (fun k => oa (2 + k)) (q 0), wX0 dA (fun k => oa (15 + k)) (q 1), wX0 dA (fun k => oa (28 + k)) (q 2), wX0 dA (fun k => oa (41 + k)) c5, wX0 dA (fun k => oa (54 + k)) (q 4), wX0 dA (fun k => oa (67 + k)) (q 5), wX0 dA (fun k => oa (80 + k)) (q 6), wX0 dA (fun k => oa (93 + k)) (q 7), wX0 dA ob b] : List va_W).flatten) := hD
  exact W.vret hx hb hr (fun t ht hW => ⟨⟨(), rfl, trivial, by rw [ht, wX3, fl_snoc]; exact hP, by rw [wX3, fl_snoc]; exact hD⟩, hS.F ht⟩) hS.2.2 dX3_push_41
set_option maxRecDepth 100000 in
set_option maxHeartbeats 4000000 in
theorem m_X3_push_4 (l : Launch) (dC : Nat → ClassId) (dI : Nat → Nat → Nat) (dA gz : Nat → Nat) (oa ob : Nat → Nat) (sz : Nat) (c : Int32) (q : Nat → SX0) (b : SX0) (c5 : SX0) (e5 : g_X0_copyFrom (q 4) b = some c5) : Met l yX3_push ws_X3_push ({ frames := 30, cells := 0, slots := 0, locals := 1200 } : Room) (va_Pc [.ref (oa 0), .ref (ob 0)] (pP (dC, dI) dA gz (wX3 dA oa (4, c, q) ++ wX0 dA ob b) sz)) (va_Qv (S := Unit) (fun _ => True) (fun _ t => pQ (dC, dI) (va_A (wX3 dA oa (4, c, q) ++ wX0 dA ob b) sz) (wX3 dA oa (((4 + 1) - (4 + 1) / 8 * 8), (if (c + 1) < 8 then (c + 1) else 8), va_up q 4 c5) ++ wX0 dA ob b) t) (va_A (wX3 dA oa (4, c, q) ++ wX0 dA ob b) sz)) 0 0 (va_A (wX3 dA oa (4, c, q) ++ wX0 dA ob b) sz) := by
  refine Met.ofW (cc := cX3_push) (maxL := 2) (ret := none) (by decide) rfl ?_
  intro p e s m args below meth cd s₁ B hml hv
  obtain ⟨rfl, hsz, hP, hK, hD0, hN, hZ⟩ := hv
  have hx := B.exec
  have hb := B.bytes
  have hr := B.returns
  have hts := atoms_spec (ws := ws_X3_push) B.pre
  have hown : s.vm.findClass RX3 = some m.cls := findClass_of_methodNamed B.named
  have hlocks := B.notSynchronized
  subst hsz
  have hD := hD0.self (sz := s.heap.size)
  generalize hAe : va_A (wX3 dA oa (4, c, q) ++ wX0 dA ob b) s.heap.size = A at hD hZ ⊢
  have hA : ∀ q : Nat, s.heap.size ≤ q → A q := fun q h => by rw [← hAe]; exact Or.inr h
  have hS : va_S A s.heap s.heap [] := va_S.rf
  have hl := lv_entry [.ref (oa 0), .ref (ob 0)] (n := 2) (Nat.le_of_ble_eq_true rfl)
  rw [lg_entry_eq]
  generalize (lg_sl [.ref (oa 0), .ref (ob 0)] ++ List.replicate (2 - (lg_sl [.ref (oa 0), .ref (ob 0)]).length) Slot.unset).toArray = ls at hl ⊢
  have hl : lv_has ls 2 [(0, .ref (oa 0)), (1, .ref (ob 0))] := hl
  have in_X3 : ∀ w ∈ wsX30, w ∈ ws_X3_push := fun w h => bg _ (inB_X3 w h)
  have hP : va_P (dC, dI) vwCl ([wH dA oa 4 c, wX0 dA (fun k => oa (2 + k)) (q 0), wX0 dA (fun k => oa (15 + k)) (q 1), wX0 dA (fun k => oa (28 + k)) (q 2), wX0 dA (fun k => oa (41 + k)) (q 3), wX0 dA (fun k => oa (54 + k)) (q 4), wX0 dA (fun k => oa (67 + k)) (q 5), wX0 dA (fun k => oa (80 + k)) (q 6), wX0 dA (fun k => oa (93 + k)) (q 7), wX0 dA ob b] : List va_W).flatten s.heap := by have h := hP; rw [wX3, fl_snoc] at h; exact h
  have hD : va_D A ([wH dA oa 4 c, wX0 dA (fun k => oa (2 + k)) (q 0), wX0 dA (fun k => oa (15 + k)) (q 1), wX0 dA (fun k => oa (28 + k)) (q 2), wX0 dA (fun k => oa (41 + k)) (q 3), wX0 dA (fun k => oa (54 + k)) (q 4), wX0 dA (fun k => oa (67 + k)) (q 5), wX0 dA (fun k => oa (80 + k)) (q 6), wX0 dA (fun k => oa (93 + k)) (q 7), wX0 dA ob b] : List va_W).flatten := by have h := hD; rw [wX3, fl_snoc] at h; exact h
  refine lv_aload_n hx hb dX3_push_0 rfl (lv_at hl 0 rfl) ?_
  refine va_get (D := (dC, dI)) (ci := 7) (v := .ref (oa 1)) (C := RX3) (T := TX3) (N := 3) hx hb hts in_X3 hown hK hP 0 rfl rfl 0 (by decide) (hts _ (bg _ wd_192)) (fun _ h9 => h9) rfl dX3_push_1 ?_
  refine lv_aload_n hx hb dX3_push_4 rfl (lv_at hl 0 rfl) ?_
  refine va_get (D := (dC, dI)) (ci := 7) (v := .int 4) (C := RX3) (T := TX3) (N := 3) hx hb hts in_X3 hown hK hP 0 rfl rfl 1 (by decide) (hts _ (bg _ wd_193)) (fun _ h9 => h9) rfl dX3_push_5 ?_
  refine va_aldq hx hb hK hP 1 3 rfl rfl (show vp_in 4 8 from by unfold vp_in; decide) dX3_push_8 ?_
  refine W.eq (g2 := F0 m 9 ls [.ref (oa 54)]) rfl ?_
  refine lv_aload_n hx hb dX3_push_9 rfl (lv_at hl 1 rfl) ?_
  refine jg2_v (va_runV (As := [.ref (ob 0)]) (rest := []) ⟨hx, hb, hml, hown, hts⟩ (mt_X0_copyFrom l dC dI dA gz (fun k => oa (54 + k)) ob s.heap.size (q 4) b c5 e5) (cwV 1 hts (gi_v bg wd_481 wd_317 wd_318 wd_2 wd_319) rfl rfl rfl hd_X0_copyFrom ⟨Nat.le_of_ble_eq_true rfl, Nat.le_of_ble_eq_true rfl⟩) ⟨pP_blind, va_recv (ci := 4) (q0 := 0) hK (seg_P hP 5 rfl) rfl rfl, pP_pre2 hP hD hS hA hK hN hZ 5 9 rfl rfl (by decide)⟩ rfl rfl hl.1 rfl (lv_room (Nat.le_of_ble_eq_true rfl)) dX3_push_10 ⟨Nat.le_of_ble_eq_true rfl, Nat.le_of_ble_eq_true rfl⟩) hP hD hS hA 5 9 rfl rfl (by decide) (aX0 _ _ _ _) (fun H locs hP hD hS => ?_)
  have hP : va_P (dC, dI) vwCl (([wH dA oa 4 c, wX0 dA (fun k => oa (2 + k)) (q 0), wX0 dA (fun k => oa (15 + k)) (q 1), wX0 dA (fun k => oa (28 + k)) (q 2), wX0 dA (fun k => oa (41 + k)) (q 3), wX0 dA (fun k => oa (54 + k)) c5, wX0 dA (fun k => oa (67 + k)) (q 5), wX0 dA (fun k => oa (80 + k)) (q 6), wX0 dA (fun k => oa (93 + k)) (q 7), wX0 dA ob b] : List va_W).flatten) H := hP
  have hD : va_D A (([wH dA oa 4 c, wX0 dA (fun k => oa (2 + k)) (q 0), wX0 dA (fun k => oa (15 + k)) (q 1), wX0 dA (fun k => oa (28 + k)) (q 2), wX0 dA (fun k => oa (41 + k)) (q 3), wX0 dA (fun k => oa (54 + k)) c5, wX0 dA (fun k => oa (67 + k)) (q 5), wX0 dA (fun k => oa (80 + k)) (q 6), wX0 dA (fun k => oa (93 + k)) (q 7), wX0 dA ob b] : List va_W).flatten) := hD
  refine lv_aload_n hx hb dX3_push_13 rfl (lv_at hl 0 rfl) ?_
  refine lv_aload_n hx hb dX3_push_14 rfl (lv_at hl 0 rfl) ?_
  refine va_get (D := (dC, dI)) (ci := 7) (v := .int 4) (C := RX3) (T := TX3) (N := 3) hx hb hts in_X3 hown hK hP 0 rfl rfl 1 (by decide) (hts _ (bg _ wd_193)) (fun _ h9 => h9) rfl dX3_push_15 ?_
  refine lv_iconst (v := 1) hx hb dX3_push_18 (by decide) ?_
  refine lv_iadd hx hb dX3_push_19 ?_
  refine lv_bipush (v := 8) hx hb dX3_push_20 (by decide) ?_
  refine lv_irem hx hb dX3_push_22 (by decide) ?_
  refine va_put (D := (dC, dI)) (ci := 7) (v := .int ((4 + 1) - (4 + 1) / 8 * 8)) (ty := .int) (C := RX3) (T := TX3) (N := 3) hx hb hts in_X3 tyX3 tyX3_ok nmX3 hown hK hP hD hS 0 rfl rfl 1 (by decide) (hts _ (bg _ wd_193)) (fun _ h9 => h9) rfl (by decide +kernel) rfl rfl (Nat.le_of_ble_eq_true rfl) dX3_push_23 (fun H locs hP hD hS => ?_)
  have hP : va_P (dC, dI) vwCl (([wH dA oa ((4 + 1) - (4 + 1) / 8 * 8) c, wX0 dA (fun k => oa (2 + k)) (q 0), wX0 dA (fun k => oa (15 + k)) (q 1), wX0 dA (fun k => oa (28 + k)) (q 2), wX0 dA (fun k => oa (41 + k)) (q 3), wX0 dA (fun k => oa (54 + k)) c5, wX0 dA (fun k => oa (67 + k)) (q 5), wX0 dA (fun k => oa (80 + k)) (q 6), wX0 dA (fun k => oa (93 + k)) (q 7), wX0 dA ob b] : List va_W).flatten) H := hP
  have hD : va_D A (([wH dA oa ((4 + 1) - (4 + 1) / 8 * 8) c, wX0 dA (fun k => oa (2 + k)) (q 0), wX0 dA (fun k => oa (15 + k)) (q 1), wX0 dA (fun k => oa (28 + k)) (q 2), wX0 dA (fun k => oa (41 + k)) (q 3), wX0 dA (fun k => oa (54 + k)) c5, wX0 dA (fun k => oa (67 + k)) (q 5), wX0 dA (fun k => oa (80 + k)) (q 6), wX0 dA (fun k => oa (93 + k)) (q 7), wX0 dA ob b] : List va_W).flatten) := hD
  refine lv_aload_n hx hb dX3_push_26 rfl (lv_at hl 0 rfl) ?_
  refine lv_bipush (v := 8) hx hb dX3_push_27 (by decide) ?_
  refine lv_aload_n hx hb dX3_push_29 rfl (lv_at hl 0 rfl) ?_
  refine va_get (D := (dC, dI)) (ci := 7) (v := .int c) (C := RX3) (T := TX3) (N := 3) hx hb hts in_X3 hown hK hP 0 rfl rfl 2 (by decide) (hts _ (bg _ wd_194)) (fun _ h9 => h9) rfl dX3_push_30 ?_
  refine lv_iconst (v := 1) hx hb dX3_push_33 (by decide) ?_
  refine lv_iadd hx hb dX3_push_34 ?_
  refine va_mmin hx hb (hml.trans hl.1.symm) hown (hts _ (bg _ wd_482)) (hts _ (bg _ wd_483)) (hts _ (bg _ wd_21)) (hts _ (bg _ wd_484)) (Nat.le_of_ble_eq_true rfl) (Nat.le_of_ble_eq_true rfl) (Nat.le_of_ble_eq_true rfl) (Nat.le_of_ble_eq_true rfl) dX3_push_35 ?_
  refine va_put (D := (dC, dI)) (ci := 7) (v := .int (if (c + 1) < 8 then (c + 1) else 8)) (ty := .int) (C := RX3) (T := TX3) (N := 3) hx hb hts in_X3 tyX3 tyX3_ok nmX3 hown hK hP hD hS 0 rfl rfl 2 (by decide) (hts _ (bg _ wd_194)) (fun _ h9 => h9) rfl (by decide +kernel) rfl rfl (Nat.le_of_ble_eq_true rfl) dX3_push_38 (fun H locs hP hD hS => ?_)
  have hP : va_P (dC, dI) vwCl (([wH dA oa ((4 + 1) - (4 + 1) / 8 * 8) (if (c + 1) < 8 then (c + 1) else 8), wX0 dA (fun k => oa (2 + k)) (q 0), wX0 dA (fun k => oa (15 + k)) (q 1), wX0 dA (fun k => oa (28 + k)) (q 2), wX0 dA (fun k => oa (41 + k)) (q 3), wX0 dA (fun k => oa (54 + k)) c5, wX0 dA (fun k => oa (67 + k)) (q 5), wX0 dA (fun k => oa (80 + k)) (q 6), wX0 dA (fun k => oa (93 + k)) (q 7), wX0 dA ob b] : List va_W).flatten) H := hP
  have hD : va_D A (([wH dA oa ((4 + 1) - (4 + 1) / 8 * 8) (if (c + 1) < 8 then (c + 1) else 8), wX0 dA (fun k => oa (2 + k)) (q 0), wX0 dA (fun k => oa (15 + k)) (q 1), wX0 dA (fun k => oa (28 + k)) (q 2), wX0 dA (fun k => oa (41 + k)) (q 3), wX0 dA (fun k => oa (54 + k)) c5, wX0 dA (fun k => oa (67 + k)) (q 5), wX0 dA (fun k => oa (80 + k)) (q 6), wX0 dA (fun k => oa (93 + k)) (q 7), wX0 dA ob b] : List va_W).flatten) := hD
  exact W.vret hx hb hr (fun t ht hW => ⟨⟨(), rfl, trivial, by rw [ht, wX3, fl_snoc]; exact hP, by rw [wX3, fl_snoc]; exact hD⟩, hS.F ht⟩) hS.2.2 dX3_push_41
set_option maxRecDepth 100000 in
set_option maxHeartbeats 4000000 in
theorem m_X3_push_5 (l : Launch) (dC : Nat → ClassId) (dI : Nat → Nat → Nat) (dA gz : Nat → Nat) (oa ob : Nat → Nat) (sz : Nat) (c : Int32) (q : Nat → SX0) (b : SX0) (c5 : SX0) (e5 : g_X0_copyFrom (q 5) b = some c5) : Met l yX3_push ws_X3_push ({ frames := 30, cells := 0, slots := 0, locals := 1200 } : Room) (va_Pc [.ref (oa 0), .ref (ob 0)] (pP (dC, dI) dA gz (wX3 dA oa (5, c, q) ++ wX0 dA ob b) sz)) (va_Qv (S := Unit) (fun _ => True) (fun _ t => pQ (dC, dI) (va_A (wX3 dA oa (5, c, q) ++ wX0 dA ob b) sz) (wX3 dA oa (((5 + 1) - (5 + 1) / 8 * 8), (if (c + 1) < 8 then (c + 1) else 8), va_up q 5 c5) ++ wX0 dA ob b) t) (va_A (wX3 dA oa (5, c, q) ++ wX0 dA ob b) sz)) 0 0 (va_A (wX3 dA oa (5, c, q) ++ wX0 dA ob b) sz) := by
  refine Met.ofW (cc := cX3_push) (maxL := 2) (ret := none) (by decide) rfl ?_
  intro p e s m args below meth cd s₁ B hml hv
  obtain ⟨rfl, hsz, hP, hK, hD0, hN, hZ⟩ := hv
  have hx := B.exec
  have hb := B.bytes
  have hr := B.returns
  have hts := atoms_spec (ws := ws_X3_push) B.pre
  have hown : s.vm.findClass RX3 = some m.cls := findClass_of_methodNamed B.named
  have hlocks := B.notSynchronized
  subst hsz
  have hD := hD0.self (sz := s.heap.size)
  generalize hAe : va_A (wX3 dA oa (5, c, q) ++ wX0 dA ob b) s.heap.size = A at hD hZ ⊢
  have hA : ∀ q : Nat, s.heap.size ≤ q → A q := fun q h => by rw [← hAe]; exact Or.inr h
  have hS : va_S A s.heap s.heap [] := va_S.rf
  have hl := lv_entry [.ref (oa 0), .ref (ob 0)] (n := 2) (Nat.le_of_ble_eq_true rfl)
  rw [lg_entry_eq]
  generalize (lg_sl [.ref (oa 0), .ref (ob 0)] ++ List.replicate (2 - (lg_sl [.ref (oa 0), .ref (ob 0)]).length) Slot.unset).toArray = ls at hl ⊢
  have hl : lv_has ls 2 [(0, .ref (oa 0)), (1, .ref (ob 0))] := hl
  have in_X3 : ∀ w ∈ wsX30, w ∈ ws_X3_push := fun w h => bg _ (inB_X3 w h)
  have hP : va_P (dC, dI) vwCl ([wH dA oa 5 c, wX0 dA (fun k => oa (2 + k)) (q 0), wX0 dA (fun k => oa (15 + k)) (q 1), wX0 dA (fun k => oa (28 + k)) (q 2), wX0 dA (fun k => oa (41 + k)) (q 3), wX0 dA (fun k => oa (54 + k)) (q 4), wX0 dA (fun k => oa (67 + k)) (q 5), wX0 dA (fun k => oa (80 + k)) (q 6), wX0 dA (fun k => oa (93 + k)) (q 7), wX0 dA ob b] : List va_W).flatten s.heap := by have h := hP; rw [wX3, fl_snoc] at h; exact h
  have hD : va_D A ([wH dA oa 5 c, wX0 dA (fun k => oa (2 + k)) (q 0), wX0 dA (fun k => oa (15 + k)) (q 1), wX0 dA (fun k => oa (28 + k)) (q 2), wX0 dA (fun k => oa (41 + k)) (q 3), wX0 dA (fun k => oa (54 + k)) (q 4), wX0 dA (fun k => oa (67 + k)) (q 5), wX0 dA (fun k => oa (80 + k)) (q 6), wX0 dA (fun k => oa (93 + k)) (q 7), wX0 dA ob b] : List va_W).flatten := by have h := hD; rw [wX3, fl_snoc] at h; exact h
  refine lv_aload_n hx hb dX3_push_0 rfl (lv_at hl 0 rfl) ?_
  refine va_get (D := (dC, dI)) (ci := 7) (v := .ref (oa 1)) (C := RX3) (T := TX3) (N := 3) hx hb hts in_X3 hown hK hP 0 rfl rfl 0 (by decide) (hts _ (bg _ wd_192)) (fun _ h9 => h9) rfl dX3_push_1 ?_
  refine lv_aload_n hx hb dX3_push_4 rfl (lv_at hl 0 rfl) ?_
  refine va_get (D := (dC, dI)) (ci := 7) (v := .int 5) (C := RX3) (T := TX3) (N := 3) hx hb hts in_X3 hown hK hP 0 rfl rfl 1 (by decide) (hts _ (bg _ wd_193)) (fun _ h9 => h9) rfl dX3_push_5 ?_
  refine va_aldq hx hb hK hP 1 3 rfl rfl (show vp_in 5 8 from by unfold vp_in; decide) dX3_push_8 ?_
  refine W.eq (g2 := F0 m 9 ls [.ref (oa 67)]) rfl ?_
  refine lv_aload_n hx hb dX3_push_9 rfl (lv_at hl 1 rfl) ?_
  refine jg2_v (va_runV (As := [.ref (ob 0)]) (rest := []) ⟨hx, hb, hml, hown, hts⟩ (mt_X0_copyFrom l dC dI dA gz (fun k => oa (67 + k)) ob s.heap.size (q 5) b c5 e5) (cwV 1 hts (gi_v bg wd_481 wd_317 wd_318 wd_2 wd_319) rfl rfl rfl hd_X0_copyFrom ⟨Nat.le_of_ble_eq_true rfl, Nat.le_of_ble_eq_true rfl⟩) ⟨pP_blind, va_recv (ci := 4) (q0 := 0) hK (seg_P hP 6 rfl) rfl rfl, pP_pre2 hP hD hS hA hK hN hZ 6 9 rfl rfl (by decide)⟩ rfl rfl hl.1 rfl (lv_room (Nat.le_of_ble_eq_true rfl)) dX3_push_10 ⟨Nat.le_of_ble_eq_true rfl, Nat.le_of_ble_eq_true rfl⟩) hP hD hS hA 6 9 rfl rfl (by decide) (aX0 _ _ _ _) (fun H locs hP hD hS => ?_)
  have hP : va_P (dC, dI) vwCl (([wH dA oa 5 c, wX0 dA (fun k => oa (2 + k)) (q 0), wX0 dA (fun k => oa (15 + k)) (q 1), wX0 dA (fun k => oa (28 + k)) (q 2), wX0 dA (fun k => oa (41 + k)) (q 3), wX0 dA (fun k => oa (54 + k)) (q 4), wX0 dA (fun k => oa (67 + k)) c5, wX0 dA (fun k => oa (80 + k)) (q 6), wX0 dA (fun k => oa (93 + k)) (q 7), wX0 dA ob b] : List va_W).flatten) H := hP
  have hD : va_D A (([wH dA oa 5 c, wX0 dA (fun k => oa (2 + k)) (q 0), wX0 dA (fun k => oa (15 + k)) (q 1), wX0 dA (fun k => oa (28 + k)) (q 2), wX0 dA (fun k => oa (41 + k)) (q 3), wX0 dA (fun k => oa (54 + k)) (q 4), wX0 dA (fun k => oa (67 + k)) c5, wX0 dA (fun k => oa (80 + k)) (q 6), wX0 dA (fun k => oa (93 + k)) (q 7), wX0 dA ob b] : List va_W).flatten) := hD
  refine lv_aload_n hx hb dX3_push_13 rfl (lv_at hl 0 rfl) ?_
  refine lv_aload_n hx hb dX3_push_14 rfl (lv_at hl 0 rfl) ?_
  refine va_get (D := (dC, dI)) (ci := 7) (v := .int 5) (C := RX3) (T := TX3) (N := 3) hx hb hts in_X3 hown hK hP 0 rfl rfl 1 (by decide) (hts _ (bg _ wd_193)) (fun _ h9 => h9) rfl dX3_push_15 ?_
  refine lv_iconst (v := 1) hx hb dX3_push_18 (by decide) ?_
  refine lv_iadd hx hb dX3_push_19 ?_
  refine lv_bipush (v := 8) hx hb dX3_push_20 (by decide) ?_
  refine lv_irem hx hb dX3_push_22 (by decide) ?_
  refine va_put (D := (dC, dI)) (ci := 7) (v := .int ((5 + 1) - (5 + 1) / 8 * 8)) (ty := .int) (C := RX3) (T := TX3) (N := 3) hx hb hts in_X3 tyX3 tyX3_ok nmX3 hown hK hP hD hS 0 rfl rfl 1 (by decide) (hts _ (bg _ wd_193)) (fun _ h9 => h9) rfl (by decide +kernel) rfl rfl (Nat.le_of_ble_eq_true rfl) dX3_push_23 (fun H locs hP hD hS => ?_)
  have hP : va_P (dC, dI) vwCl (([wH dA oa ((5 + 1) - (5 + 1) / 8 * 8) c, wX0 dA (fun k => oa (2 + k)) (q 0), wX0 dA (fun k => oa (15 + k)) (q 1), wX0 dA (fun k => oa (28 + k)) (q 2), wX0 dA (fun k => oa (41 + k)) (q 3), wX0 dA (fun k => oa (54 + k)) (q 4), wX0 dA (fun k => oa (67 + k)) c5, wX0 dA (fun k => oa (80 + k)) (q 6), wX0 dA (fun k => oa (93 + k)) (q 7), wX0 dA ob b] : List va_W).flatten) H := hP
  have hD : va_D A (([wH dA oa ((5 + 1) - (5 + 1) / 8 * 8) c, wX0 dA (fun k => oa (2 + k)) (q 0), wX0 dA (fun k => oa (15 + k)) (q 1), wX0 dA (fun k => oa (28 + k)) (q 2), wX0 dA (fun k => oa (41 + k)) (q 3), wX0 dA (fun k => oa (54 + k)) (q 4), wX0 dA (fun k => oa (67 + k)) c5, wX0 dA (fun k => oa (80 + k)) (q 6), wX0 dA (fun k => oa (93 + k)) (q 7), wX0 dA ob b] : List va_W).flatten) := hD
  refine lv_aload_n hx hb dX3_push_26 rfl (lv_at hl 0 rfl) ?_
  refine lv_bipush (v := 8) hx hb dX3_push_27 (by decide) ?_
  refine lv_aload_n hx hb dX3_push_29 rfl (lv_at hl 0 rfl) ?_
  refine va_get (D := (dC, dI)) (ci := 7) (v := .int c) (C := RX3) (T := TX3) (N := 3) hx hb hts in_X3 hown hK hP 0 rfl rfl 2 (by decide) (hts _ (bg _ wd_194)) (fun _ h9 => h9) rfl dX3_push_30 ?_
  refine lv_iconst (v := 1) hx hb dX3_push_33 (by decide) ?_
  refine lv_iadd hx hb dX3_push_34 ?_
  refine va_mmin hx hb (hml.trans hl.1.symm) hown (hts _ (bg _ wd_482)) (hts _ (bg _ wd_483)) (hts _ (bg _ wd_21)) (hts _ (bg _ wd_484)) (Nat.le_of_ble_eq_true rfl) (Nat.le_of_ble_eq_true rfl) (Nat.le_of_ble_eq_true rfl) (Nat.le_of_ble_eq_true rfl) dX3_push_35 ?_
  refine va_put (D := (dC, dI)) (ci := 7) (v := .int (if (c + 1) < 8 then (c + 1) else 8)) (ty := .int) (C := RX3) (T := TX3) (N := 3) hx hb hts in_X3 tyX3 tyX3_ok nmX3 hown hK hP hD hS 0 rfl rfl 2 (by decide) (hts _ (bg _ wd_194)) (fun _ h9 => h9) rfl (by decide +kernel) rfl rfl (Nat.le_of_ble_eq_true rfl) dX3_push_38 (fun H locs hP hD hS => ?_)
  have hP : va_P (dC, dI) vwCl (([wH dA oa ((5 + 1) - (5 + 1) / 8 * 8) (if (c + 1) < 8 then (c + 1) else 8), wX0 dA (fun k => oa (2 + k)) (q 0), wX0 dA (fun k => oa (15 + k)) (q 1), wX0 dA (fun k => oa (28 + k)) (q 2), wX0 dA (fun k => oa (41 + k)) (q 3), wX0 dA (fun k => oa (54 + k)) (q 4), wX0 dA (fun k => oa (67 + k)) c5, wX0 dA (fun k => oa (80 + k)) (q 6), wX0 dA (fun k => oa (93 + k)) (q 7), wX0 dA ob b] : List va_W).flatten) H := hP
  have hD : va_D A (([wH dA oa ((5 + 1) - (5 + 1) / 8 * 8) (if (c + 1) < 8 then (c + 1) else 8), wX0 dA (fun k => oa (2 + k)) (q 0), wX0 dA (fun k => oa (15 + k)) (q 1), wX0 dA (fun k => oa (28 + k)) (q 2), wX0 dA (fun k => oa (41 + k)) (q 3), wX0 dA (fun k => oa (54 + k)) (q 4), wX0 dA (fun k => oa (67 + k)) c5, wX0 dA (fun k => oa (80 + k)) (q 6), wX0 dA (fun k => oa (93 + k)) (q 7), wX0 dA ob b] : List va_W).flatten) := hD
  exact W.vret hx hb hr (fun t ht hW => ⟨⟨(), rfl, trivial, by rw [ht, wX3, fl_snoc]; exact hP, by rw [wX3, fl_snoc]; exact hD⟩, hS.F ht⟩) hS.2.2 dX3_push_41
set_option maxRecDepth 100000 in
set_option maxHeartbeats 4000000 in
theorem m_X3_push_6 (l : Launch) (dC : Nat → ClassId) (dI : Nat → Nat → Nat) (dA gz : Nat → Nat) (oa ob : Nat → Nat) (sz : Nat) (c : Int32) (q : Nat → SX0) (b : SX0) (c5 : SX0) (e5 : g_X0_copyFrom (q 6) b = some c5) : Met l yX3_push ws_X3_push ({ frames := 30, cells := 0, slots := 0, locals := 1200 } : Room) (va_Pc [.ref (oa 0), .ref (ob 0)] (pP (dC, dI) dA gz (wX3 dA oa (6, c, q) ++ wX0 dA ob b) sz)) (va_Qv (S := Unit) (fun _ => True) (fun _ t => pQ (dC, dI) (va_A (wX3 dA oa (6, c, q) ++ wX0 dA ob b) sz) (wX3 dA oa (((6 + 1) - (6 + 1) / 8 * 8), (if (c + 1) < 8 then (c + 1) else 8), va_up q 6 c5) ++ wX0 dA ob b) t) (va_A (wX3 dA oa (6, c, q) ++ wX0 dA ob b) sz)) 0 0 (va_A (wX3 dA oa (6, c, q) ++ wX0 dA ob b) sz) := by
  refine Met.ofW (cc := cX3_push) (maxL := 2) (ret := none) (by decide) rfl ?_
  intro p e s m args below meth cd s₁ B hml hv
  obtain ⟨rfl, hsz, hP, hK, hD0, hN, hZ⟩ := hv
  have hx := B.exec
  have hb := B.bytes
  have hr := B.returns
  have hts := atoms_spec (ws := ws_X3_push) B.pre
  have hown : s.vm.findClass RX3 = some m.cls := findClass_of_methodNamed B.named
  have hlocks := B.notSynchronized
  subst hsz
  have hD := hD0.self (sz := s.heap.size)
  generalize hAe : va_A (wX3 dA oa (6, c, q) ++ wX0 dA ob b) s.heap.size = A at hD hZ ⊢
  have hA : ∀ q : Nat, s.heap.size ≤ q → A q := fun q h => by rw [← hAe]; exact Or.inr h
  have hS : va_S A s.heap s.heap [] := va_S.rf
  have hl := lv_entry [.ref (oa 0), .ref (ob 0)] (n := 2) (Nat.le_of_ble_eq_true rfl)
  rw [lg_entry_eq]
  generalize (lg_sl [.ref (oa 0), .ref (ob 0)] ++ List.replicate (2 - (lg_sl [.ref (oa 0), .ref (ob 0)]).length) Slot.unset).toArray = ls at hl ⊢
  have hl : lv_has ls 2 [(0, .ref (oa 0)), (1, .ref (ob 0))] := hl
  have in_X3 : ∀ w ∈ wsX30, w ∈ ws_X3_push := fun w h => bg _ (inB_X3 w h)
  have hP : va_P (dC, dI) vwCl ([wH dA oa 6 c, wX0 dA (fun k => oa (2 + k)) (q 0), wX0 dA (fun k => oa (15 + k)) (q 1), wX0 dA (fun k => oa (28 + k)) (q 2), wX0 dA (fun k => oa (41 + k)) (q 3), wX0 dA (fun k => oa (54 + k)) (q 4), wX0 dA (fun k => oa (67 + k)) (q 5), wX0 dA (fun k => oa (80 + k)) (q 6), wX0 dA (fun k => oa (93 + k)) (q 7), wX0 dA ob b] : List va_W).flatten s.heap := by have h := hP; rw [wX3, fl_snoc] at h; exact h
  have hD : va_D A ([wH dA oa 6 c, wX0 dA (fun k => oa (2 + k)) (q 0), wX0 dA (fun k => oa (15 + k)) (q 1), wX0 dA (fun k => oa (28 + k)) (q 2), wX0 dA (fun k => oa (41 + k)) (q 3), wX0 dA (fun k => oa (54 + k)) (q 4), wX0 dA (fun k => oa (67 + k)) (q 5), wX0 dA (fun k => oa (80 + k)) (q 6), wX0 dA (fun k => oa (93 + k)) (q 7), wX0 dA ob b] : List va_W).flatten := by have h := hD; rw [wX3, fl_snoc] at h; exact h
  refine lv_aload_n hx hb dX3_push_0 rfl (lv_at hl 0 rfl) ?_
  refine va_get (D := (dC, dI)) (ci := 7) (v := .ref (oa 1)) (C := RX3) (T := TX3) (N := 3) hx hb hts in_X3 hown hK hP 0 rfl rfl 0 (by decide) (hts _ (bg _ wd_192)) (fun _ h9 => h9) rfl dX3_push_1 ?_
  refine lv_aload_n hx hb dX3_push_4 rfl (lv_at hl 0 rfl) ?_
  refine va_get (D := (dC, dI)) (ci := 7) (v := .int 6) (C := RX3) (T := TX3) (N := 3) hx hb hts in_X3 hown hK hP 0 rfl rfl 1 (by decide) (hts _ (bg _ wd_193)) (fun _ h9 => h9) rfl dX3_push_5 ?_
  refine va_aldq hx hb hK hP 1 3 rfl rfl (show vp_in 6 8 from by unfold vp_in; decide) dX3_push_8 ?_
  refine W.eq (g2 := F0 m 9 ls [.ref (oa 80)]) rfl ?_
  refine lv_aload_n hx hb dX3_push_9 rfl (lv_at hl 1 rfl) ?_
  refine jg2_v (va_runV (As := [.ref (ob 0)]) (rest := []) ⟨hx, hb, hml, hown, hts⟩ (mt_X0_copyFrom l dC dI dA gz (fun k => oa (80 + k)) ob s.heap.size (q 6) b c5 e5) (cwV 1 hts (gi_v bg wd_481 wd_317 wd_318 wd_2 wd_319) rfl rfl rfl hd_X0_copyFrom ⟨Nat.le_of_ble_eq_true rfl, Nat.le_of_ble_eq_true rfl⟩) ⟨pP_blind, va_recv (ci := 4) (q0 := 0) hK (seg_P hP 7 rfl) rfl rfl, pP_pre2 hP hD hS hA hK hN hZ 7 9 rfl rfl (by decide)⟩ rfl rfl hl.1 rfl (lv_room (Nat.le_of_ble_eq_true rfl)) dX3_push_10 ⟨Nat.le_of_ble_eq_true rfl, Nat.le_of_ble_eq_true rfl⟩) hP hD hS hA 7 9 rfl rfl (by decide) (aX0 _ _ _ _) (fun H locs hP hD hS => ?_)
  have hP : va_P (dC, dI) vwCl (([wH dA oa 6 c, wX0 dA (fun k => oa (2 + k)) (q 0), wX0 dA (fun k => oa (15 + k)) (q 1), wX0 dA (fun k => oa (28 + k)) (q 2), wX0 dA (fun k => oa (41 + k)) (q 3), wX0 dA (fun k => oa (54 + k)) (q 4), wX0 dA (fun k => oa (67 + k)) (q 5), wX0 dA (fun k => oa (80 + k)) c5, wX0 dA (fun k => oa (93 + k)) (q 7), wX0 dA ob b] : List va_W).flatten) H := hP
  have hD : va_D A (([wH dA oa 6 c, wX0 dA (fun k => oa (2 + k)) (q 0), wX0 dA (fun k => oa (15 + k)) (q 1), wX0 dA (fun k => oa (28 + k)) (q 2), wX0 dA (fun k => oa (41 + k)) (q 3), wX0 dA (fun k => oa (54 + k)) (q 4), wX0 dA (fun k => oa (67 + k)) (q 5), wX0 dA (fun k => oa (80 + k)) c5, wX0 dA (fun k => oa (93 + k)) (q 7), wX0 dA ob b] : List va_W).flatten) := hD
  refine lv_aload_n hx hb dX3_push_13 rfl (lv_at hl 0 rfl) ?_
  refine lv_aload_n hx hb dX3_push_14 rfl (lv_at hl 0 rfl) ?_
  refine va_get (D := (dC, dI)) (ci := 7) (v := .int 6) (C := RX3) (T := TX3) (N := 3) hx hb hts in_X3 hown hK hP 0 rfl rfl 1 (by decide) (hts _ (bg _ wd_193)) (fun _ h9 => h9) rfl dX3_push_15 ?_
  refine lv_iconst (v := 1) hx hb dX3_push_18 (by decide) ?_
  refine lv_iadd hx hb dX3_push_19 ?_
  refine lv_bipush (v := 8) hx hb dX3_push_20 (by decide) ?_
  refine lv_irem hx hb dX3_push_22 (by decide) ?_
  refine va_put (D := (dC, dI)) (ci := 7) (v := .int ((6 + 1) - (6 + 1) / 8 * 8)) (ty := .int) (C := RX3) (T := TX3) (N := 3) hx hb hts in_X3 tyX3 tyX3_ok nmX3 hown hK hP hD hS 0 rfl rfl 1 (by decide) (hts _ (bg _ wd_193)) (fun _ h9 => h9) rfl (by decide +kernel) rfl rfl (Nat.le_of_ble_eq_true rfl) dX3_push_23 (fun H locs hP hD hS => ?_)
  have hP : va_P (dC, dI) vwCl (([wH dA oa ((6 + 1) - (6 + 1) / 8 * 8) c, wX0 dA (fun k => oa (2 + k)) (q 0), wX0 dA (fun k => oa (15 + k)) (q 1), wX0 dA (fun k => oa (28 + k)) (q 2), wX0 dA (fun k => oa (41 + k)) (q 3), wX0 dA (fun k => oa (54 + k)) (q 4), wX0 dA (fun k => oa (67 + k)) (q 5), wX0 dA (fun k => oa (80 + k)) c5, wX0 dA (fun k => oa (93 + k)) (q 7), wX0 dA ob b] : List va_W).flatten) H := hP
  have hD : va_D A (([wH dA oa ((6 + 1) - (6 + 1) / 8 * 8) c, wX0 dA (fun k => oa (2 + k)) (q 0), wX0 dA (fun k => oa (15 + k)) (q 1), wX0 dA (fun k => oa (28 + k)) (q 2), wX0 dA (fun k => oa (41 + k)) (q 3), wX0 dA (fun k => oa (54 + k)) (q 4), wX0 dA (fun k => oa (67 + k)) (q 5), wX0 dA (fun k => oa (80 + k)) c5, wX0 dA (fun k => oa (93 + k)) (q 7), wX0 dA ob b] : List va_W).flatten) := hD
  refine lv_aload_n hx hb dX3_push_26 rfl (lv_at hl 0 rfl) ?_
  refine lv_bipush (v := 8) hx hb dX3_push_27 (by decide) ?_
  refine lv_aload_n hx hb dX3_push_29 rfl (lv_at hl 0 rfl) ?_
  refine va_get (D := (dC, dI)) (ci := 7) (v := .int c) (C := RX3) (T := TX3) (N := 3) hx hb hts in_X3 hown hK hP 0 rfl rfl 2 (by decide) (hts _ (bg _ wd_194)) (fun _ h9 => h9) rfl dX3_push_30 ?_
  refine lv_iconst (v := 1) hx hb dX3_push_33 (by decide) ?_
  refine lv_iadd hx hb dX3_push_34 ?_
  refine va_mmin hx hb (hml.trans hl.1.symm) hown (hts _ (bg _ wd_482)) (hts _ (bg _ wd_483)) (hts _ (bg _ wd_21)) (hts _ (bg _ wd_484)) (Nat.le_of_ble_eq_true rfl) (Nat.le_of_ble_eq_true rfl) (Nat.le_of_ble_eq_true rfl) (Nat.le_of_ble_eq_true rfl) dX3_push_35 ?_
  refine va_put (D := (dC, dI)) (ci := 7) (v := .int (if (c + 1) < 8 then (c + 1) else 8)) (ty := .int) (C := RX3) (T := TX3) (N := 3) hx hb hts in_X3 tyX3 tyX3_ok nmX3 hown hK hP hD hS 0 rfl rfl 2 (by decide) (hts _ (bg _ wd_194)) (fun _ h9 => h9) rfl (by decide +kernel) rfl rfl (Nat.le_of_ble_eq_true rfl) dX3_push_38 (fun H locs hP hD hS => ?_)
  have hP : va_P (dC, dI) vwCl (([wH dA oa ((6 + 1) - (6 + 1) / 8 * 8) (if (c + 1) < 8 then (c + 1) else 8), wX0 dA (fun k => oa (2 + k)) (q 0), wX0 dA (fun k => oa (15 + k)) (q 1), wX0 dA (fun k => oa (28 + k)) (q 2), wX0 dA (fun k => oa (41 + k)) (q 3), wX0 dA (fun k => oa (54 + k)) (q 4), wX0 dA (fun k => oa (67 + k)) (q 5), wX0 dA (fun k => oa (80 + k)) c5, wX0 dA (fun k => oa (93 + k)) (q 7), wX0 dA ob b] : List va_W).flatten) H := hP
  have hD : va_D A (([wH dA oa ((6 + 1) - (6 + 1) / 8 * 8) (if (c + 1) < 8 then (c + 1) else 8), wX0 dA (fun k => oa (2 + k)) (q 0), wX0 dA (fun k => oa (15 + k)) (q 1), wX0 dA (fun k => oa (28 + k)) (q 2), wX0 dA (fun k => oa (41 + k)) (q 3), wX0 dA (fun k => oa (54 + k)) (q 4), wX0 dA (fun k => oa (67 + k)) (q 5), wX0 dA (fun k => oa (80 + k)) c5, wX0 dA (fun k => oa (93 + k)) (q 7), wX0 dA ob b] : List va_W).flatten) := hD
  exact W.vret hx hb hr (fun t ht hW => ⟨⟨(), rfl, trivial, by rw [ht, wX3, fl_snoc]; exact hP, by rw [wX3, fl_snoc]; exact hD⟩, hS.F ht⟩) hS.2.2 dX3_push_41
set_option maxRecDepth 100000 in
set_option maxHeartbeats 4000000 in
theorem m_X3_push_7 (l : Launch) (dC : Nat → ClassId) (dI : Nat → Nat → Nat) (dA gz : Nat → Nat) (oa ob : Nat → Nat) (sz : Nat) (c : Int32) (q : Nat → SX0) (b : SX0) (c5 : SX0) (e5 : g_X0_copyFrom (q 7) b = some c5) : Met l yX3_push ws_X3_push ({ frames := 30, cells := 0, slots := 0, locals := 1200 } : Room) (va_Pc [.ref (oa 0), .ref (ob 0)] (pP (dC, dI) dA gz (wX3 dA oa (7, c, q) ++ wX0 dA ob b) sz)) (va_Qv (S := Unit) (fun _ => True) (fun _ t => pQ (dC, dI) (va_A (wX3 dA oa (7, c, q) ++ wX0 dA ob b) sz) (wX3 dA oa (((7 + 1) - (7 + 1) / 8 * 8), (if (c + 1) < 8 then (c + 1) else 8), va_up q 7 c5) ++ wX0 dA ob b) t) (va_A (wX3 dA oa (7, c, q) ++ wX0 dA ob b) sz)) 0 0 (va_A (wX3 dA oa (7, c, q) ++ wX0 dA ob b) sz) := by
  refine Met.ofW (cc := cX3_push) (maxL := 2) (ret := none) (by decide) rfl ?_
  intro p e s m args below meth cd s₁ B hml hv
  obtain ⟨rfl, hsz, hP, hK, hD0, hN, hZ⟩ := hv
  have hx := B.exec
  have hb := B.bytes
  have hr := B.returns
  have hts := atoms_spec (ws := ws_X3_push) B.pre
  have hown : s.vm.findClass RX3 = some m.cls := findClass_of_methodNamed B.named
  have hlocks := B.notSynchronized
  subst hsz
  have hD := hD0.self (sz := s.heap.size)
  generalize hAe : va_A (wX3 dA oa (7, c, q) ++ wX0 dA ob b) s.heap.size = A at hD hZ ⊢
  have hA : ∀ q : Nat, s.heap.size ≤ q → A q := fun q h => by rw [← hAe]; exact Or.inr h
  have hS : va_S A s.heap s.heap [] := va_S.rf
  have hl := lv_entry [.ref (oa 0), .ref (ob 0)] (n := 2) (Nat.le_of_ble_eq_true rfl)
  rw [lg_entry_eq]
  generalize (lg_sl [.ref (oa 0), .ref (ob 0)] ++ List.replicate (2 - (lg_sl [.ref (oa 0), .ref (ob 0)]).length) Slot.unset).toArray = ls at hl ⊢
  have hl : lv_has ls 2 [(0, .ref (oa 0)), (1, .ref (ob 0))] := hl
  have in_X3 : ∀ w ∈ wsX30, w ∈ ws_X3_push := fun w h => bg _ (inB_X3 w h)
  have hP : va_P (dC, dI) vwCl ([wH dA oa 7 c, wX0 dA (fun k => oa (2 + k)) (q 0), wX0 dA (fun k => oa (15 + k)) (q 1), wX0 dA (fun k => oa (28 + k)) (q 2), wX0 dA (fun k => oa (41 + k)) (q 3), wX0 dA (fun k => oa (54 + k)) (q 4), wX0 dA (fun k => oa (67 + k)) (q 5), wX0 dA (fun k => oa (80 + k)) (q 6), wX0 dA (fun k => oa (93 + k)) (q 7), wX0 dA ob b] : List va_W).flatten s.heap := by have h := hP; rw [wX3, fl_snoc] at h; exact h
  have hD : va_D A ([wH dA oa 7 c, wX0 dA (fun k => oa (2 + k)) (q 0), wX0 dA (fun k => oa (15 + k)) (q 1), wX0 dA (fun k => oa (28 + k)) (q 2), wX0 dA (fun k => oa (41 + k)) (q 3), wX0 dA (fun k => oa (54 + k)) (q 4), wX0 dA (fun k => oa (67 + k)) (q 5), wX0 dA (fun k => oa (80 + k)) (q 6), wX0 dA (fun k => oa (93 + k)) (q 7), wX0 dA ob b] : List va_W).flatten := by have h := hD; rw [wX3, fl_snoc] at h; exact h
  refine lv_aload_n hx hb dX3_push_0 rfl (lv_at hl 0 rfl) ?_
  refine va_get (D := (dC, dI)) (ci := 7) (v := .ref (oa 1)) (C := RX3) (T := TX3) (N := 3) hx hb hts in_X3 hown hK hP 0 rfl rfl 0 (by decide) (hts _ (bg _ wd_192)) (fun _ h9 => h9) rfl dX3_push_1 ?_
  refine lv_aload_n hx hb dX3_push_4 rfl (lv_at hl 0 rfl) ?_
  refine va_get (D := (dC, dI)) (ci := 7) (v := .int 7) (C := RX3) (T := TX3) (N := 3) hx hb hts in_X3 hown hK hP 0 rfl rfl 1 (by decide) (hts _ (bg _ wd_193)) (fun _ h9 => h9) rfl dX3_push_5 ?_
  refine va_aldq hx hb hK hP 1 3 rfl rfl (show vp_in 7 8 from by unfold vp_in; decide) dX3_push_8 ?_
  refine W.eq (g2 := F0 m 9 ls [.ref (oa 93)]) rfl ?_
  refine lv_aload_n hx hb dX3_push_9 rfl (lv_at hl 1 rfl) ?_
  refine jg2_v (va_runV (As := [.ref (ob 0)]) (rest := []) ⟨hx, hb, hml, hown, hts⟩ (mt_X0_copyFrom l dC dI dA gz (fun k => oa (93 + k)) ob s.heap.size (q 7) b c5 e5) (cwV 1 hts (gi_v bg wd_481 wd_317 wd_318 wd_2 wd_319) rfl rfl rfl hd_X0_copyFrom ⟨Nat.le_of_ble_eq_true rfl, Nat.le_of_ble_eq_true rfl⟩) ⟨pP_blind, va_recv (ci := 4) (q0 := 0) hK (seg_P hP 8 rfl) rfl rfl, pP_pre2 hP hD hS hA hK hN hZ 8 9 rfl rfl (by decide)⟩ rfl rfl hl.1 rfl (lv_room (Nat.le_of_ble_eq_true rfl)) dX3_push_10 ⟨Nat.le_of_ble_eq_true rfl, Nat.le_of_ble_eq_true rfl⟩) hP hD hS hA 8 9 rfl rfl (by decide) (aX0 _ _ _ _) (fun H locs hP hD hS => ?_)
  have hP : va_P (dC, dI) vwCl (([wH dA oa 7 c, wX0 dA (fun k => oa (2 + k)) (q 0), wX0 dA (fun k => oa (15 + k)) (q 1), wX0 dA (fun k => oa (28 + k)) (q 2), wX0 dA (fun k => oa (41 + k)) (q 3), wX0 dA (fun k => oa (54 + k)) (q 4), wX0 dA (fun k => oa (67 + k)) (q 5), wX0 dA (fun k => oa (80 + k)) (q 6), wX0 dA (fun k => oa (93 + k)) c5, wX0 dA ob b] : List va_W).flatten) H := hP
  have hD : va_D A (([wH dA oa 7 c, wX0 dA (fun k => oa (2 + k)) (q 0), wX0 dA (fun k => oa (15 + k)) (q 1), wX0 dA (fun k => oa (28 + k)) (q 2), wX0 dA (fun k => oa (41 + k)) (q 3), wX0 dA (fun k => oa (54 + k)) (q 4), wX0 dA (fun k => oa (67 + k)) (q 5), wX0 dA (fun k => oa (80 + k)) (q 6), wX0 dA (fun k => oa (93 + k)) c5, wX0 dA ob b] : List va_W).flatten) := hD
  refine lv_aload_n hx hb dX3_push_13 rfl (lv_at hl 0 rfl) ?_
  refine lv_aload_n hx hb dX3_push_14 rfl (lv_at hl 0 rfl) ?_
  refine va_get (D := (dC, dI)) (ci := 7) (v := .int 7) (C := RX3) (T := TX3) (N := 3) hx hb hts in_X3 hown hK hP 0 rfl rfl 1 (by decide) (hts _ (bg _ wd_193)) (fun _ h9 => h9) rfl dX3_push_15 ?_
  refine lv_iconst (v := 1) hx hb dX3_push_18 (by decide) ?_
  refine lv_iadd hx hb dX3_push_19 ?_
  refine lv_bipush (v := 8) hx hb dX3_push_20 (by decide) ?_
  refine lv_irem hx hb dX3_push_22 (by decide) ?_
  refine va_put (D := (dC, dI)) (ci := 7) (v := .int ((7 + 1) - (7 + 1) / 8 * 8)) (ty := .int) (C := RX3) (T := TX3) (N := 3) hx hb hts in_X3 tyX3 tyX3_ok nmX3 hown hK hP hD hS 0 rfl rfl 1 (by decide) (hts _ (bg _ wd_193)) (fun _ h9 => h9) rfl (by decide +kernel) rfl rfl (Nat.le_of_ble_eq_true rfl) dX3_push_23 (fun H locs hP hD hS => ?_)
  have hP : va_P (dC, dI) vwCl (([wH dA oa ((7 + 1) - (7 + 1) / 8 * 8) c, wX0 dA (fun k => oa (2 + k)) (q 0), wX0 dA (fun k => oa (15 + k)) (q 1), wX0 dA (fun k => oa (28 + k)) (q 2), wX0 dA (fun k => oa (41 + k)) (q 3), wX0 dA (fun k => oa (54 + k)) (q 4), wX0 dA (fun k => oa (67 + k)) (q 5), wX0 dA (fun k => oa (80 + k)) (q 6), wX0 dA (fun k => oa (93 + k)) c5, wX0 dA ob b] : List va_W).flatten) H := hP
  have hD : va_D A (([wH dA oa ((7 + 1) - (7 + 1) / 8 * 8) c, wX0 dA (fun k => oa (2 + k)) (q 0), wX0 dA (fun k => oa (15 + k)) (q 1), wX0 dA (fun k => oa (28 + k)) (q 2), wX0 dA (fun k => oa (41 + k)) (q 3), wX0 dA (fun k => oa (54 + k)) (q 4), wX0 dA (fun k => oa (67 + k)) (q 5), wX0 dA (fun k => oa (80 + k)) (q 6), wX0 dA (fun k => oa (93 + k)) c5, wX0 dA ob b] : List va_W).flatten) := hD
  refine lv_aload_n hx hb dX3_push_26 rfl (lv_at hl 0 rfl) ?_
  refine lv_bipush (v := 8) hx hb dX3_push_27 (by decide) ?_
  refine lv_aload_n hx hb dX3_push_29 rfl (lv_at hl 0 rfl) ?_
  refine va_get (D := (dC, dI)) (ci := 7) (v := .int c) (C := RX3) (T := TX3) (N := 3) hx hb hts in_X3 hown hK hP 0 rfl rfl 2 (by decide) (hts _ (bg _ wd_194)) (fun _ h9 => h9) rfl dX3_push_30 ?_
  refine lv_iconst (v := 1) hx hb dX3_push_33 (by decide) ?_
  refine lv_iadd hx hb dX3_push_34 ?_
  refine va_mmin hx hb (hml.trans hl.1.symm) hown (hts _ (bg _ wd_482)) (hts _ (bg _ wd_483)) (hts _ (bg _ wd_21)) (hts _ (bg _ wd_484)) (Nat.le_of_ble_eq_true rfl) (Nat.le_of_ble_eq_true rfl) (Nat.le_of_ble_eq_true rfl) (Nat.le_of_ble_eq_true rfl) dX3_push_35 ?_
  refine va_put (D := (dC, dI)) (ci := 7) (v := .int (if (c + 1) < 8 then (c + 1) else 8)) (ty := .int) (C := RX3) (T := TX3) (N := 3) hx hb hts in_X3 tyX3 tyX3_ok nmX3 hown hK hP hD hS 0 rfl rfl 2 (by decide) (hts _ (bg _ wd_194)) (fun _ h9 => h9) rfl (by decide +kernel) rfl rfl (Nat.le_of_ble_eq_true rfl) dX3_push_38 (fun H locs hP hD hS => ?_)
  have hP : va_P (dC, dI) vwCl (([wH dA oa ((7 + 1) - (7 + 1) / 8 * 8) (if (c + 1) < 8 then (c + 1) else 8), wX0 dA (fun k => oa (2 + k)) (q 0), wX0 dA (fun k => oa (15 + k)) (q 1), wX0 dA (fun k => oa (28 + k)) (q 2), wX0 dA (fun k => oa (41 + k)) (q 3), wX0 dA (fun k => oa (54 + k)) (q 4), wX0 dA (fun k => oa (67 + k)) (q 5), wX0 dA (fun k => oa (80 + k)) (q 6), wX0 dA (fun k => oa (93 + k)) c5, wX0 dA ob b] : List va_W).flatten) H := hP
  have hD : va_D A (([wH dA oa ((7 + 1) - (7 + 1) / 8 * 8) (if (c + 1) < 8 then (c + 1) else 8), wX0 dA (fun k => oa (2 + k)) (q 0), wX0 dA (fun k => oa (15 + k)) (q 1), wX0 dA (fun k => oa (28 + k)) (q 2), wX0 dA (fun k => oa (41 + k)) (q 3), wX0 dA (fun k => oa (54 + k)) (q 4), wX0 dA (fun k => oa (67 + k)) (q 5), wX0 dA (fun k => oa (80 + k)) (q 6), wX0 dA (fun k => oa (93 + k)) c5, wX0 dA ob b] : List va_W).flatten) := hD
  exact W.vret hx hb hr (fun t ht hW => ⟨⟨(), rfl, trivial, by rw [ht, wX3, fl_snoc]; exact hP, by rw [wX3, fl_snoc]; exact hD⟩, hS.F ht⟩) hS.2.2 dX3_push_41
set_option maxRecDepth 100000 in
set_option maxHeartbeats 4000000 in
theorem m_X3_pop_0 (l : Launch) (dC : Nat → ClassId) (dI : Nat → Nat → Nat) (dA gz : Nat → Nat) (oa ob : Nat → Nat) (sz : Nat) (c : Int32) (q : Nat → SX0) (b : SX0) (c5 : SX0) (h0 : ¬ c ≤ 0) (e5 : g_X0_copyFrom b (q 7) = some c5) : Met l yX3_pop ws_X3_pop ({ frames := 30, cells := 0, slots := 0, locals := 1200 } : Room) (va_Pc [.ref (oa 0), .ref (ob 0)] (pP (dC, dI) dA gz (wX3 dA oa (0, c, q) ++ wX0 dA ob b) sz)) (va_Qv (S := Unit) (fun _ => True) (fun _ t => pQ (dC, dI) (va_A (wX3 dA oa (0, c, q) ++ wX0 dA ob b) sz) (wX3 dA oa (7, c - 1, q) ++ wX0 dA ob c5) t) (va_A (wX3 dA oa (0, c, q) ++ wX0 dA ob b) sz)) 0 0 (va_A (wX3 dA oa (0, c, q) ++ wX0 dA ob b) sz) := by
  refine Met.ofW (cc := cX3_pop) (maxL := 2) (ret := none) (by decide) rfl ?_
  intro p e s m args below meth cd s₁ B hml hv
  obtain ⟨rfl, hsz, hP, hK, hD0, hN, hZ⟩ := hv
  have hx := B.exec
  have hb := B.bytes
  have hr := B.returns
  have hts := atoms_spec (ws := ws_X3_pop) B.pre
  have hown : s.vm.findClass RX3 = some m.cls := findClass_of_methodNamed B.named
  have hlocks := B.notSynchronized
  subst hsz
  have hD := hD0.self (sz := s.heap.size)
  generalize hAe : va_A (wX3 dA oa (0, c, q) ++ wX0 dA ob b) s.heap.size = A at hD hZ ⊢
  have hA : ∀ q : Nat, s.heap.size ≤ q → A q := fun q h => by rw [← hAe]; exact Or.inr h
  have hS : va_S A s.heap s.heap [] := va_S.rf
  have hl := lv_entry [.ref (oa 0), .ref (ob 0)] (n := 2) (Nat.le_of_ble_eq_true rfl)
  rw [lg_entry_eq]
  generalize (lg_sl [.ref (oa 0), .ref (ob 0)] ++ List.replicate (2 - (lg_sl [.ref (oa 0), .ref (ob 0)]).length) Slot.unset).toArray = ls at hl ⊢
  have hl : lv_has ls 2 [(0, .ref (oa 0)), (1, .ref (ob 0))] := hl
  have in_X3 : ∀ w ∈ wsX30, w ∈ ws_X3_pop := fun w h => bg _ (inB_X3 w h)
  have hP : va_P (dC, dI) vwCl ([wH dA oa 0 c, wX0 dA (fun k => oa (2 + k)) (q 0), wX0 dA (fun k => oa (15 + k)) (q 1), wX0 dA (fun k => oa (28 + k)) (q 2), wX0 dA (fun k => oa (41 + k)) (q 3), wX0 dA (fun k => oa (54 + k)) (q 4), wX0 dA (fun k => oa (67 + k)) (q 5), wX0 dA (fun k => oa (80 + k)) (q 6), wX0 dA (fun k => oa (93 + k)) (q 7), wX0 dA ob b] : List va_W).flatten s.heap := by have h := hP; rw [wX3, fl_snoc] at h; exact h
  have hD : va_D A ([wH dA oa 0 c, wX0 dA (fun k => oa (2 + k)) (q 0), wX0 dA (fun k => oa (15 + k)) (q 1), wX0 dA (fun k => oa (28 + k)) (q 2), wX0 dA (fun k => oa (41 + k)) (q 3), wX0 dA (fun k => oa (54 + k)) (q 4), wX0 dA (fun k => oa (67 + k)) (q 5), wX0 dA (fun k => oa (80 + k)) (q 6), wX0 dA (fun k => oa (93 + k)) (q 7), wX0 dA ob b] : List va_W).flatten := by have h := hD; rw [wX3, fl_snoc] at h; exact h
  refine lv_aload_n hx hb dX3_pop_0 rfl (lv_at hl 0 rfl) ?_
  refine va_get (D := (dC, dI)) (ci := 7) (v := .int c) (C := RX3) (T := TX3) (N := 3) hx hb hts in_X3 hown hK hP 0 rfl rfl 2 (by decide) (hts _ (bg _ wd_194)) (fun _ h9 => h9) rfl dX3_pop_1 ?_
  refine lv_if_le (tgt := 46) hx hb dX3_pop_4 (by decide) (fun q9 => absurd q9 h0) (fun q9 => ?_)
  refine lv_aload_n hx hb dX3_pop_7 rfl (lv_at hl 0 rfl) ?_
  refine lv_aload_n hx hb dX3_pop_8 rfl (lv_at hl 0 rfl) ?_
  refine va_get (D := (dC, dI)) (ci := 7) (v := .int 0) (C := RX3) (T := TX3) (N := 3) hx hb hts in_X3 hown hK hP 0 rfl rfl 1 (by decide) (hts _ (bg _ wd_193)) (fun _ h9 => h9) rfl dX3_pop_9 ?_
  refine lv_bipush (v := 8) hx hb dX3_pop_12 (by decide) ?_
  refine lv_iadd hx hb dX3_pop_14 ?_
  refine lv_iconst (v := 1) hx hb dX3_pop_15 (by decide) ?_
  refine lv_isub hx hb dX3_pop_16 ?_
  refine lv_bipush (v := 8) hx hb dX3_pop_17 (by decide) ?_
  refine lv_irem hx hb dX3_pop_19 (by decide) ?_
  refine W.eq (g2 := F0 m 20 ls [.int 7, .ref (oa 0)]) (congrArg (fun z => F0 m 20 ls [.int z, .ref (oa 0)]) (show (((0 + 8) - 1) - ((0 + 8) - 1) / 8 * 8 : Int32) = 7 by decide)) ?_
  refine va_put (D := (dC, dI)) (ci := 7) (v := .int 7) (ty := .int) (C := RX3) (T := TX3) (N := 3) hx hb hts in_X3 tyX3 tyX3_ok nmX3 hown hK hP hD hS 0 rfl rfl 1 (by decide) (hts _ (bg _ wd_193)) (fun _ h9 => h9) rfl (by decide +kernel) rfl rfl (Nat.le_of_ble_eq_true rfl) dX3_pop_20 (fun H locs hP hD hS => ?_)
  have hP : va_P (dC, dI) vwCl (([wH dA oa 7 c, wX0 dA (fun k => oa (2 + k)) (q 0), wX0 dA (fun k => oa (15 + k)) (q 1), wX0 dA (fun k => oa (28 + k)) (q 2), wX0 dA (fun k => oa (41 + k)) (q 3), wX0 dA (fun k => oa (54 + k)) (q 4), wX0 dA (fun k => oa (67 + k)) (q 5), wX0 dA (fun k => oa (80 + k)) (q 6), wX0 dA (fun k => oa (93 + k)) (q 7), wX0 dA ob b] : List va_W).flatten) H := hP
  have hD : va_D A (([wH dA oa 7 c, wX0 dA (fun k => oa (2 + k)) (q 0), wX0 dA (fun k => oa (15 + k)) (q 1), wX0 dA (fun k => oa (28 + k)) (q 2), wX0 dA (fun k => oa (41 + k)) (q 3), wX0 dA (fun k => oa (54 + k)) (q 4), wX0 dA (fun k => oa (67 + k)) (q 5), wX0 dA (fun k => oa (80 + k)) (q 6), wX0 dA (fun k => oa (93 + k)) (q 7), wX0 dA ob b] : List va_W).flatten) := hD
  refine lv_aload_n hx hb dX3_pop_23 rfl (lv_at hl 1 rfl) ?_
  refine lv_aload_n hx hb dX3_pop_24 rfl (lv_at hl 0 rfl) ?_
  refine va_get (D := (dC, dI)) (ci := 7) (v := .ref (oa 1)) (C := RX3) (T := TX3) (N := 3) hx hb hts in_X3 hown hK hP 0 rfl rfl 0 (by decide) (hts _ (bg _ wd_192)) (fun _ h9 => h9) rfl dX3_pop_25 ?_
  refine lv_aload_n hx hb dX3_pop_28 rfl (lv_at hl 0 rfl) ?_
  refine va_get (D := (dC, dI)) (ci := 7) (v := .int 7) (C := RX3) (T := TX3) (N := 3) hx hb hts in_X3 hown hK hP 0 rfl rfl 1 (by decide) (hts _ (bg _ wd_193)) (fun _ h9 => h9) rfl dX3_pop_29 ?_
  refine va_aldq hx hb hK hP 1 3 rfl rfl (show vp_in 7 8 from by unfold vp_in; decide) dX3_pop_32 ?_
  refine W.eq (g2 := F0 m 33 ls [.ref (oa 93), .ref (ob 0)]) rfl ?_
  refine jg2_v (va_runV (As := [.ref (oa 93)]) (rest := []) ⟨hx, hb, hml, hown, hts⟩ (mt_X0_copyFrom l dC dI dA gz ob (fun k => oa (93 + k)) H.size b (q 7) c5 e5) (cwV 1 hts (gi_v bg wd_481 wd_317 wd_318 wd_2 wd_319) rfl rfl rfl hd_X0_copyFrom ⟨Nat.le_of_ble_eq_true rfl, Nat.le_of_ble_eq_true rfl⟩) ⟨pP_blind, va_recv (ci := 4) (q0 := 0) hK (seg_P hP 9 rfl) rfl rfl, pP_pre2 hP hD hS hA hK hN hZ 9 8 rfl rfl (by decide)⟩ rfl rfl hl.1 rfl (lv_room (Nat.le_of_ble_eq_true rfl)) dX3_pop_33 ⟨Nat.le_of_ble_eq_true rfl, Nat.le_of_ble_eq_true rfl⟩) hP hD hS hA 9 8 rfl rfl (by decide) (aX0 _ _ _ _) (fun H locs hP hD hS => ?_)
  have hP : va_P (dC, dI) vwCl (([wH dA oa 7 c, wX0 dA (fun k => oa (2 + k)) (q 0), wX0 dA (fun k => oa (15 + k)) (q 1), wX0 dA (fun k => oa (28 + k)) (q 2), wX0 dA (fun k => oa (41 + k)) (q 3), wX0 dA (fun k => oa (54 + k)) (q 4), wX0 dA (fun k => oa (67 + k)) (q 5), wX0 dA (fun k => oa (80 + k)) (q 6), wX0 dA (fun k => oa (93 + k)) (q 7), wX0 dA ob c5] : List va_W).flatten) H := hP
  have hD : va_D A (([wH dA oa 7 c, wX0 dA (fun k => oa (2 + k)) (q 0), wX0 dA (fun k => oa (15 + k)) (q 1), wX0 dA (fun k => oa (28 + k)) (q 2), wX0 dA (fun k => oa (41 + k)) (q 3), wX0 dA (fun k => oa (54 + k)) (q 4), wX0 dA (fun k => oa (67 + k)) (q 5), wX0 dA (fun k => oa (80 + k)) (q 6), wX0 dA (fun k => oa (93 + k)) (q 7), wX0 dA ob c5] : List va_W).flatten) := hD
  refine lv_aload_n hx hb dX3_pop_36 rfl (lv_at hl 0 rfl) ?_
  refine lv_dup hx hb dX3_pop_37 rfl ?_
  refine va_get (D := (dC, dI)) (ci := 7) (v := .int c) (C := RX3) (T := TX3) (N := 3) hx hb hts in_X3 hown hK hP 0 rfl rfl 2 (by decide) (hts _ (bg _ wd_194)) (fun _ h9 => h9) rfl dX3_pop_38 ?_
  refine lv_iconst (v := 1) hx hb dX3_pop_41 (by decide) ?_
  refine lv_isub hx hb dX3_pop_42 ?_
  refine va_put (D := (dC, dI)) (ci := 7) (v := .int (c - 1)) (ty := .int) (C := RX3) (T := TX3) (N := 3) hx hb hts in_X3 tyX3 tyX3_ok nmX3 hown hK hP hD hS 0 rfl rfl 2 (by decide) (hts _ (bg _ wd_194)) (fun _ h9 => h9) rfl (by decide +kernel) rfl rfl (Nat.le_of_ble_eq_true rfl) dX3_pop_43 (fun H locs hP hD hS => ?_)
  have hP : va_P (dC, dI) vwCl (([wH dA oa 7 (c - 1), wX0 dA (fun k => oa (2 + k)) (q 0), wX0 dA (fun k => oa (15 + k)) (q 1), wX0 dA (fun k => oa (28 + k)) (q 2), wX0 dA (fun k => oa (41 + k)) (q 3), wX0 dA (fun k => oa (54 + k)) (q 4), wX0 dA (fun k => oa (67 + k)) (q 5), wX0 dA (fun k => oa (80 + k)) (q 6), wX0 dA (fun k => oa (93 + k)) (q 7), wX0 dA ob c5] : List va_W).flatten) H := hP
  have hD : va_D A (([wH dA oa 7 (c - 1), wX0 dA (fun k => oa (2 + k)) (q 0), wX0 dA (fun k => oa (15 + k)) (q 1), wX0 dA (fun k => oa (28 + k)) (q 2), wX0 dA (fun k => oa (41 + k)) (q 3), wX0 dA (fun k => oa (54 + k)) (q 4), wX0 dA (fun k => oa (67 + k)) (q 5), wX0 dA (fun k => oa (80 + k)) (q 6), wX0 dA (fun k => oa (93 + k)) (q 7), wX0 dA ob c5] : List va_W).flatten) := hD
  exact W.vret hx hb hr (fun t ht hW => ⟨⟨(), rfl, trivial, by rw [ht, wX3, fl_snoc]; exact hP, by rw [wX3, fl_snoc]; exact hD⟩, hS.F ht⟩) hS.2.2 dX3_pop_46
set_option maxRecDepth 100000 in
set_option maxHeartbeats 4000000 in
theorem m_X3_pop_1 (l : Launch) (dC : Nat → ClassId) (dI : Nat → Nat → Nat) (dA gz : Nat → Nat) (oa ob : Nat → Nat) (sz : Nat) (c : Int32) (q : Nat → SX0) (b : SX0) (c5 : SX0) (h0 : ¬ c ≤ 0) (e5 : g_X0_copyFrom b (q 0) = some c5) : Met l yX3_pop ws_X3_pop ({ frames := 30, cells := 0, slots := 0, locals := 1200 } : Room) (va_Pc [.ref (oa 0), .ref (ob 0)] (pP (dC, dI) dA gz (wX3 dA oa (1, c, q) ++ wX0 dA ob b) sz)) (va_Qv (S := Unit) (fun _ => True) (fun _ t => pQ (dC, dI) (va_A (wX3 dA oa (1, c, q) ++ wX0 dA ob b) sz) (wX3 dA oa (0, c - 1, q) ++ wX0 dA ob c5) t) (va_A (wX3 dA oa (1, c, q) ++ wX0 dA ob b) sz)) 0 0 (va_A (wX3 dA oa (1, c, q) ++ wX0 dA ob b) sz) := by
  refine Met.ofW (cc := cX3_pop) (maxL := 2) (ret := none) (by decide) rfl ?_
  intro p e s m args below meth cd s₁ B hml hv
  obtain ⟨rfl, hsz, hP, hK, hD0, hN, hZ⟩ := hv
  have hx := B.exec
  have hb := B.bytes
  have hr := B.returns
  have hts := atoms_spec (ws := ws_X3_pop) B.pre
  have hown : s.vm.findClass RX3 = some m.cls := findClass_of_methodNamed B.named
  have hlocks := B.notSynchronized
  subst hsz
  have hD := hD0.self (sz := s.heap.size)
  generalize hAe : va_A (wX3 dA oa (1, c, q) ++ wX0 dA ob b) s.heap.size = A at hD hZ ⊢
  have hA : ∀ q : Nat, s.heap.size ≤ q → A q := fun q h => by rw [← hAe]; exact Or.inr h
  have hS : va_S A s.heap s.heap [] := va_S.rf
  have hl := lv_entry [.ref (oa 0), .ref (ob 0)] (n := 2) (Nat.le_of_ble_eq_true rfl)
  rw [lg_entry_eq]
  generalize (lg_sl [.ref (oa 0), .ref (ob 0)] ++ List.replicate (2 - (lg_sl [.ref (oa 0), .ref (ob 0)]).length) Slot.unset).toArray = ls at hl ⊢
  have hl : lv_has ls 2 [(0, .ref (oa 0)), (1, .ref (ob 0))] := hl
  have in_X3 : ∀ w ∈ wsX30, w ∈ ws_X3_pop := fun w h => bg _ (inB_X3 w h)
  have hP : va_P (dC, dI) vwCl ([wH dA oa 1 c, wX0 dA (fun k => oa (2 + k)) (q 0), wX0 dA (fun k => oa (15 + k)) (q 1), wX0 dA (fun k => oa (28 + k)) (q 2), wX0 dA (fun k => oa (41 + k)) (q 3), wX0 dA (fun k => oa (54 + k)) (q 4), wX0 dA (fun k => oa (67 + k)) (q 5), wX0 dA (fun k => oa (80 + k)) (q 6), wX0 dA (fun k => oa (93 + k)) (q 7), wX0 dA ob b] : List va_W).flatten s.heap := by have h := hP; rw [wX3, fl_snoc] at h; exact h
  have hD : va_D A ([wH dA oa 1 c, wX0 dA (fun k => oa (2 + k)) (q 0), wX0 dA (fun k => oa (15 + k)) (q 1), wX0 dA (fun k => oa (28 + k)) (q 2), wX0 dA (fun k => oa (41 + k)) (q 3), wX0 dA (fun k => oa (54 + k)) (q 4), wX0 dA (fun k => oa (67 + k)) (q 5), wX0 dA (fun k => oa (80 + k)) (q 6), wX0 dA (fun k => oa (93 + k)) (q 7), wX0 dA ob b] : List va_W).flatten := by have h := hD; rw [wX3, fl_snoc] at h; exact h
  refine lv_aload_n hx hb dX3_pop_0 rfl (lv_at hl 0 rfl) ?_
  refine va_get (D := (dC, dI)) (ci := 7) (v := .int c) (C := RX3) (T := TX3) (N := 3) hx hb hts in_X3 hown hK hP 0 rfl rfl 2 (by decide) (hts _ (bg _ wd_194)) (fun _ h9 => h9) rfl dX3_pop_1 ?_
  refine lv_if_le (tgt := 46) hx hb dX3_pop_4 (by decide) (fun q9 => absurd q9 h0) (fun q9 => ?_)
  refine lv_aload_n hx hb dX3_pop_7 rfl (lv_at hl 0 rfl) ?_
  refine lv_aload_n hx hb dX3_pop_8 rfl (lv_at hl 0 rfl) ?_
  refine va_get (D := (dC, dI)) (ci := 7) (v := .int 1) (C := RX3) (T := TX3) (N := 3) hx hb hts in_X3 hown hK hP 0 rfl rfl 1 (by decide) (hts _ (bg _ wd_193)) (fun _ h9 => h9) rfl dX3_pop_9 ?_
  refine lv_bipush (v := 8) hx hb dX3_pop_12 (by decide) ?_
  refine lv_iadd hx hb dX3_pop_14 ?_
  refine lv_iconst (v := 1) hx hb dX3_pop_15 (by decide) ?_
  refine lv_isub hx hb dX3_pop_16 ?_
  refine lv_bipush (v := 8) hx hb dX3_pop_17 (by decide) ?_
  refine lv_irem hx hb dX3_pop_19 (by decide) ?_
  refine W.eq (g2 := F0 m 20 ls [.int 0, .ref (oa 0)]) (congrArg (fun z => F0 m 20 ls [.int z, .ref (oa 0)]) (show (((1 + 8) - 1) - ((1 + 8) - 1) / 8 * 8 : Int32) = 0 by decide)) ?_
  refine va_put (D := (dC, dI)) (ci := 7) (v := .int 0) (ty := .int) (C := RX3) (T := TX3) (N := 3) hx hb hts in_X3 tyX3 tyX3_ok nmX3 hown hK hP hD hS 0 rfl rfl 1 (by decide) (hts _ (bg _ wd_193)) (fun _ h9 => h9) rfl (by decide +kernel) rfl rfl (Nat.le_of_ble_eq_true rfl) dX3_pop_20 (fun H locs hP hD hS => ?_)
  have hP : va_P (dC, dI) vwCl (([wH dA oa 0 c, wX0 dA (fun k => oa (2 + k)) (q 0), wX0 dA (fun k => oa (15 + k)) (q 1), wX0 dA (fun k => oa (28 + k)) (q 2), wX0 dA (fun k => oa (41 + k)) (q 3), wX0 dA (fun k => oa (54 + k)) (q 4), wX0 dA (fun k => oa (67 + k)) (q 5), wX0 dA (fun k => oa (80 + k)) (q 6), wX0 dA (fun k => oa (93 + k)) (q 7), wX0 dA ob b] : List va_W).flatten) H := hP
  have hD : va_D A (([wH dA oa 0 c, wX0 dA (fun k => oa (2 + k)) (q 0), wX0 dA (fun k => oa (15 + k)) (q 1), wX0 dA (fun k => oa (28 + k)) (q 2), wX0 dA (fun k => oa (41 + k)) (q 3), wX0 dA (fun k => oa (54 + k)) (q 4), wX0 dA (fun k => oa (67 + k)) (q 5), wX0 dA (fun k => oa (80 + k)) (q 6), wX0 dA (fun k => oa (93 + k)) (q 7), wX0 dA ob b] : List va_W).flatten) := hD
  refine lv_aload_n hx hb dX3_pop_23 rfl (lv_at hl 1 rfl) ?_
  refine lv_aload_n hx hb dX3_pop_24 rfl (lv_at hl 0 rfl) ?_
  refine va_get (D := (dC, dI)) (ci := 7) (v := .ref (oa 1)) (C := RX3) (T := TX3) (N := 3) hx hb hts in_X3 hown hK hP 0 rfl rfl 0 (by decide) (hts _ (bg _ wd_192)) (fun _ h9 => h9) rfl dX3_pop_25 ?_
  refine lv_aload_n hx hb dX3_pop_28 rfl (lv_at hl 0 rfl) ?_
  refine va_get (D := (dC, dI)) (ci := 7) (v := .int 0) (C := RX3) (T := TX3) (N := 3) hx hb hts in_X3 hown hK hP 0 rfl rfl 1 (by decide) (hts _ (bg _ wd_193)) (fun _ h9 => h9) rfl dX3_pop_29 ?_
  refine va_aldq hx hb hK hP 1 3 rfl rfl (show vp_in 0 8 from by unfold vp_in; decide) dX3_pop_32 ?_
  refine W.eq (g2 := F0 m 33 ls [.ref (oa 2), .ref (ob 0)]) rfl ?_
  refine jg2_v (va_runV (As := [.ref (oa 2)]) (rest := []) ⟨hx, hb, hml, hown, hts⟩ (mt_X0_copyFrom l dC dI dA gz ob (fun k => oa (2 + k)) H.size b (q 0) c5 e5) (cwV 1 hts (gi_v bg wd_481 wd_317 wd_318 wd_2 wd_319) rfl rfl rfl hd_X0_copyFrom ⟨Nat.le_of_ble_eq_true rfl, Nat.le_of_ble_eq_true rfl⟩) ⟨pP_blind, va_recv (ci := 4) (q0 := 0) hK (seg_P hP 9 rfl) rfl rfl, pP_pre2 hP hD hS hA hK hN hZ 9 1 rfl rfl (by decide)⟩ rfl rfl hl.1 rfl (lv_room (Nat.le_of_ble_eq_true rfl)) dX3_pop_33 ⟨Nat.le_of_ble_eq_true rfl, Nat.le_of_ble_eq_true rfl⟩) hP hD hS hA 9 1 rfl rfl (by decide) (aX0 _ _ _ _) (fun H locs hP hD hS => ?_)
  have hP : va_P (dC, dI) vwCl (([wH dA oa 0 c, wX0 dA (fun k => oa (2 + k)) (q 0), wX0 dA (fun k => oa (15 + k)) (q 1), wX0 dA (fun k => oa (28 + k)) (q 2), wX0 dA (fun k => oa (41 + k)) (q 3), wX0 dA (fun k => oa (54 + k)) (q 4), wX0 dA (fun k => oa (67 + k)) (q 5), wX0 dA (fun k => oa (80 + k)) (q 6), wX0 dA (fun k => oa (93 + k)) (q 7), wX0 dA ob c5] : List va_W).flatten) H := hP
  have hD : va_D A (([wH dA oa 0 c, wX0 dA (fun k => oa (2 + k)) (q 0), wX0 dA (fun k => oa (15 + k)) (q 1), wX0 dA (fun k => oa (28 + k)) (q 2), wX0 dA (fun k => oa (41 + k)) (q 3), wX0 dA (fun k => oa (54 + k)) (q 4), wX0 dA (fun k => oa (67 + k)) (q 5), wX0 dA (fun k => oa (80 + k)) (q 6), wX0 dA (fun k => oa (93 + k)) (q 7), wX0 dA ob c5] : List va_W).flatten) := hD
  refine lv_aload_n hx hb dX3_pop_36 rfl (lv_at hl 0 rfl) ?_
  refine lv_dup hx hb dX3_pop_37 rfl ?_
  refine va_get (D := (dC, dI)) (ci := 7) (v := .int c) (C := RX3) (T := TX3) (N := 3) hx hb hts in_X3 hown hK hP 0 rfl rfl 2 (by decide) (hts _ (bg _ wd_194)) (fun _ h9 => h9) rfl dX3_pop_38 ?_
  refine lv_iconst (v := 1) hx hb dX3_pop_41 (by decide) ?_
  refine lv_isub hx hb dX3_pop_42 ?_
  refine va_put (D := (dC, dI)) (ci := 7) (v := .int (c - 1)) (ty := .int) (C := RX3) (T := TX3) (N := 3) hx hb hts in_X3 tyX3 tyX3_ok nmX3 hown hK hP hD hS 0 rfl rfl 2 (by decide) (hts _ (bg _ wd_194)) (fun _ h9 => h9) rfl (by decide +kernel) rfl rfl (Nat.le_of_ble_eq_true rfl) dX3_pop_43 (fun H locs hP hD hS => ?_)
  have hP : va_P (dC, dI) vwCl (([wH dA oa 0 (c - 1), wX0 dA (fun k => oa (2 + k)) (q 0), wX0 dA (fun k => oa (15 + k)) (q 1), wX0 dA (fun k => oa (28 + k)) (q 2), wX0 dA (fun k => oa (41 + k)) (q 3), wX0 dA (fun k => oa (54 + k)) (q 4), wX0 dA (fun k => oa (67 + k)) (q 5), wX0 dA (fun k => oa (80 + k)) (q 6), wX0 dA (fun k => oa (93 + k)) (q 7), wX0 dA ob c5] : List va_W).flatten) H := hP
  have hD : va_D A (([wH dA oa 0 (c - 1), wX0 dA (fun k => oa (2 + k)) (q 0), wX0 dA (fun k => oa (15 + k)) (q 1), wX0 dA (fun k => oa (28 + k)) (q 2), wX0 dA (fun k => oa (41 + k)) (q 3), wX0 dA (fun k => oa (54 + k)) (q 4), wX0 dA (fun k => oa (67 + k)) (q 5), wX0 dA (fun k => oa (80 + k)) (q 6), wX0 dA (fun k => oa (93 + k)) (q 7), wX0 dA ob c5] : List va_W).flatten) := hD
  exact W.vret hx hb hr (fun t ht hW => ⟨⟨(), rfl, trivial, by rw [ht, wX3, fl_snoc]; exact hP, by rw [wX3, fl_snoc]; exact hD⟩, hS.F ht⟩) hS.2.2 dX3_pop_46
set_option maxRecDepth 100000 in
set_option maxHeartbeats 4000000 in
theorem m_X3_pop_2 (l : Launch) (dC : Nat → ClassId) (dI : Nat → Nat → Nat) (dA gz : Nat → Nat) (oa ob : Nat → Nat) (sz : Nat) (c : Int32) (q : Nat → SX0) (b : SX0) (c5 : SX0) (h0 : ¬ c ≤ 0) (e5 : g_X0_copyFrom b (q 1) = some c5) : Met l yX3_pop ws_X3_pop ({ frames := 30, cells := 0, slots := 0, locals := 1200 } : Room) (va_Pc [.ref (oa 0), .ref (ob 0)] (pP (dC, dI) dA gz (wX3 dA oa (2, c, q) ++ wX0 dA ob b) sz)) (va_Qv (S := Unit) (fun _ => True) (fun _ t => pQ (dC, dI) (va_A (wX3 dA oa (2, c, q) ++ wX0 dA ob b) sz) (wX3 dA oa (1, c - 1, q) ++ wX0 dA ob c5) t) (va_A (wX3 dA oa (2, c, q) ++ wX0 dA ob b) sz)) 0 0 (va_A (wX3 dA oa (2, c, q) ++ wX0 dA ob b) sz) := by
  refine Met.ofW (cc := cX3_pop) (maxL := 2) (ret := none) (by decide) rfl ?_
  intro p e s m args below meth cd s₁ B hml hv
  obtain ⟨rfl, hsz, hP, hK, hD0, hN, hZ⟩ := hv
  have hx := B.exec
  have hb := B.bytes
  have hr := B.returns
  have hts := atoms_spec (ws := ws_X3_pop) B.pre
  have hown : s.vm.findClass RX3 = some m.cls := findClass_of_methodNamed B.named
  have hlocks := B.notSynchronized
  subst hsz
  have hD := hD0.self (sz := s.heap.size)
  generalize hAe : va_A (wX3 dA oa (2, c, q) ++ wX0 dA ob b) s.heap.size = A at hD hZ ⊢
  have hA : ∀ q : Nat, s.heap.size ≤ q → A q := fun q h => by rw [← hAe]; exact Or.inr h
  have hS : va_S A s.heap s.heap [] := va_S.rf
  have hl := lv_entry [.ref (oa 0), .ref (ob 0)] (n := 2) (Nat.le_of_ble_eq_true rfl)
  rw [lg_entry_eq]
  generalize (lg_sl [.ref (oa 0), .ref (ob 0)] ++ List.replicate (2 - (lg_sl [.ref (oa 0), .ref (ob 0)]).length) Slot.unset).toArray = ls at hl ⊢
  have hl : lv_has ls 2 [(0, .ref (oa 0)), (1, .ref (ob 0))] := hl
  have in_X3 : ∀ w ∈ wsX30, w ∈ ws_X3_pop := fun w h => bg _ (inB_X3 w h)
  have hP : va_P (dC, dI) vwCl ([wH dA oa 2 c, wX0 dA (fun k => oa (2 + k)) (q 0), wX0 dA (fun k => oa (15 + k)) (q 1), wX0 dA (fun k => oa (28 + k)) (q 2), wX0 dA (fun k => oa (41 + k)) (q 3), wX0 dA (fun k => oa (54 + k)) (q 4), wX0 dA (fun k => oa (67 + k)) (q 5), wX0 dA (fun k => oa (80 + k)) (q 6), wX0 dA (fun k => oa (93 + k)) (q 7), wX0 dA ob b] : List va_W).flatten s.heap := by have h := hP; rw [wX3, fl_snoc] at h; exact h
  have hD : va_D A ([wH dA oa 2 c, wX0 dA (fun k => oa (2 + k)) (q 0), wX0 dA (fun k => oa (15 + k)) (q 1), wX0 dA (fun k => oa (28 + k)) (q 2), wX0 dA (fun k => oa (41 + k)) (q 3), wX0 dA (fun k => oa (54 + k)) (q 4), wX0 dA (fun k => oa (67 + k)) (q 5), wX0 dA (fun k => oa (80 + k)) (q 6), wX0 dA (fun k => oa (93 + k)) (q 7), wX0 dA ob b] : List va_W).flatten := by have h := hD; rw [wX3, fl_snoc] at h; exact h
  refine lv_aload_n hx hb dX3_pop_0 rfl (lv_at hl 0 rfl) ?_
  refine va_get (D := (dC, dI)) (ci := 7) (v := .int c) (C := RX3) (T := TX3) (N := 3) hx hb hts in_X3 hown hK hP 0 rfl rfl 2 (by decide) (hts _ (bg _ wd_194)) (fun _ h9 => h9) rfl dX3_pop_1 ?_
  refine lv_if_le (tgt := 46) hx hb dX3_pop_4 (by decide) (fun q9 => absurd q9 h0) (fun q9 => ?_)
  refine lv_aload_n hx hb dX3_pop_7 rfl (lv_at hl 0 rfl) ?_
  refine lv_aload_n hx hb dX3_pop_8 rfl (lv_at hl 0 rfl) ?_
  refine va_get (D := (dC, dI)) (ci := 7) (v := .int 2) (C := RX3) (T := TX3) (N := 3) hx hb hts in_X3 hown hK hP 0 rfl rfl 1 (by decide) (hts _ (bg _ wd_193)) (fun _ h9 => h9) rfl dX3_pop_9 ?_
  refine lv_bipush (v := 8) hx hb dX3_pop_12 (by decide) ?_
  refine lv_iadd hx hb dX3_pop_14 ?_
  refine lv_iconst (v := 1) hx hb dX3_pop_15 (by decide) ?_
  refine lv_isub hx hb dX3_pop_16 ?_
  refine lv_bipush (v := 8) hx hb dX3_pop_17 (by decide) ?_
  refine lv_irem hx hb dX3_pop_19 (by decide) ?_
  refine W.eq (g2 := F0 m 20 ls [.int 1, .ref (oa 0)]) (congrArg (fun z => F0 m 20 ls [.int z, .ref (oa 0)]) (show (((2 + 8) - 1) - ((2 + 8) - 1) / 8 * 8 : Int32) = 1 by decide)) ?_
  refine va_put (D := (dC, dI)) (ci := 7) (v := .int 1) (ty := .int) (C := RX3) (T := TX3) (N := 3) hx hb hts in_X3 tyX3 tyX3_ok nmX3 hown hK hP hD hS 0 rfl rfl 1 (by decide) (hts _ (bg _ wd_193)) (fun _ h9 => h9) rfl (by decide +kernel) rfl rfl (Nat.le_of_ble_eq_true rfl) dX3_pop_20 (fun H locs hP hD hS => ?_)
  have hP : va_P (dC, dI) vwCl (([wH dA oa 1 c, wX0 dA (fun k => oa (2 + k)) (q 0), wX0 dA (fun k => oa (15 + k)) (q 1), wX0 dA (fun k => oa (28 + k)) (q 2), wX0 dA (fun k => oa (41 + k)) (q 3), wX0 dA (fun k => oa (54 + k)) (q 4), wX0 dA (fun k => oa (67 + k)) (q 5), wX0 dA (fun k => oa (80 + k)) (q 6), wX0 dA (fun k => oa (93 + k)) (q 7), wX0 dA ob b] : List va_W).flatten) H := hP
  have hD : va_D A (([wH dA oa 1 c, wX0 dA (fun k => oa (2 + k)) (q 0), wX0 dA (fun k => oa (15 + k)) (q 1), wX0 dA (fun k => oa (28 + k)) (q 2), wX0 dA (fun k => oa (41 + k)) (q 3), wX0 dA (fun k => oa (54 + k)) (q 4), wX0 dA (fun k => oa (67 + k)) (q 5), wX0 dA (fun k => oa (80 + k)) (q 6), wX0 dA (fun k => oa (93 + k)) (q 7), wX0 dA ob b] : List va_W).flatten) := hD
  refine lv_aload_n hx hb dX3_pop_23 rfl (lv_at hl 1 rfl) ?_
  refine lv_aload_n hx hb dX3_pop_24 rfl (lv_at hl 0 rfl) ?_
  refine va_get (D := (dC, dI)) (ci := 7) (v := .ref (oa 1)) (C := RX3) (T := TX3) (N := 3) hx hb hts in_X3 hown hK hP 0 rfl rfl 0 (by decide) (hts _ (bg _ wd_192)) (fun _ h9 => h9) rfl dX3_pop_25 ?_
  refine lv_aload_n hx hb dX3_pop_28 rfl (lv_at hl 0 rfl) ?_
  refine va_get (D := (dC, dI)) (ci := 7) (v := .int 1) (C := RX3) (T := TX3) (N := 3) hx hb hts in_X3 hown hK hP 0 rfl rfl 1 (by decide) (hts _ (bg _ wd_193)) (fun _ h9 => h9) rfl dX3_pop_29 ?_
  refine va_aldq hx hb hK hP 1 3 rfl rfl (show vp_in 1 8 from by unfold vp_in; decide) dX3_pop_32 ?_
  refine W.eq (g2 := F0 m 33 ls [.ref (oa 15), .ref (ob 0)]) rfl ?_
  refine jg2_v (va_runV (As := [.ref (oa 15)]) (rest := []) ⟨hx, hb, hml, hown, hts⟩ (mt_X0_copyFrom l dC dI dA gz ob (fun k => oa (15 + k)) H.size b (q 1) c5 e5) (cwV 1 hts (gi_v bg wd_481 wd_317 wd_318 wd_2 wd_319) rfl rfl rfl hd_X0_copyFrom ⟨Nat.le_of_ble_eq_true rfl, Nat.le_of_ble_eq_true rfl⟩) ⟨pP_blind, va_recv (ci := 4) (q0 := 0) hK (seg_P hP 9 rfl) rfl rfl, pP_pre2 hP hD hS hA hK hN hZ 9 2 rfl rfl (by decide)⟩ rfl rfl hl.1 rfl (lv_room (Nat.le_of_ble_eq_true rfl)) dX3_pop_33 ⟨Nat.le_of_ble_eq_true rfl, Nat.le_of_ble_eq_true rfl⟩) hP hD hS hA 9 2 rfl rfl (by decide) (aX0 _ _ _ _) (fun H locs hP hD hS => ?_)
  have hP : va_P (dC, dI) vwCl (([wH dA oa 1 c, wX0 dA (fun k => oa (2 + k)) (q 0), wX0 dA (fun k => oa (15 + k)) (q 1), wX0 dA (fun k => oa (28 + k)) (q 2), wX0 dA (fun k => oa (41 + k)) (q 3), wX0 dA (fun k => oa (54 + k)) (q 4), wX0 dA (fun k => oa (67 + k)) (q 5), wX0 dA (fun k => oa (80 + k)) (q 6), wX0 dA (fun k => oa (93 + k)) (q 7), wX0 dA ob c5] : List va_W).flatten) H := hP
  have hD : va_D A (([wH dA oa 1 c, wX0 dA (fun k => oa (2 + k)) (q 0), wX0 dA (fun k => oa (15 + k)) (q 1), wX0 dA (fun k => oa (28 + k)) (q 2), wX0 dA (fun k => oa (41 + k)) (q 3), wX0 dA (fun k => oa (54 + k)) (q 4), wX0 dA (fun k => oa (67 + k)) (q 5), wX0 dA (fun k => oa (80 + k)) (q 6), wX0 dA (fun k => oa (93 + k)) (q 7), wX0 dA ob c5] : List va_W).flatten) := hD
  refine lv_aload_n hx hb dX3_pop_36 rfl (lv_at hl 0 rfl) ?_
  refine lv_dup hx hb dX3_pop_37 rfl ?_
  refine va_get (D := (dC, dI)) (ci := 7) (v := .int c) (C := RX3) (T := TX3) (N := 3) hx hb hts in_X3 hown hK hP 0 rfl rfl 2 (by decide) (hts _ (bg _ wd_194)) (fun _ h9 => h9) rfl dX3_pop_38 ?_
  refine lv_iconst (v := 1) hx hb dX3_pop_41 (by decide) ?_
  refine lv_isub hx hb dX3_pop_42 ?_
  refine va_put (D := (dC, dI)) (ci := 7) (v := .int (c - 1)) (ty := .int) (C := RX3) (T := TX3) (N := 3) hx hb hts in_X3 tyX3 tyX3_ok nmX3 hown hK hP hD hS 0 rfl rfl 2 (by decide) (hts _ (bg _ wd_194)) (fun _ h9 => h9) rfl (by decide +kernel) rfl rfl (Nat.le_of_ble_eq_true rfl) dX3_pop_43 (fun H locs hP hD hS => ?_)
  have hP : va_P (dC, dI) vwCl (([wH dA oa 1 (c - 1), wX0 dA (fun k => oa (2 + k)) (q 0), wX0 dA (fun k => oa (15 + k)) (q 1), wX0 dA (fun k => oa (28 + k)) (q 2), wX0 dA (fun k => oa (41 + k)) (q 3), wX0 dA (fun k => oa (54 + k)) (q 4), wX0 dA (fun k => oa (67 + k)) (q 5), wX0 dA (fun k => oa (80 + k)) (q 6), wX0 dA (fun k => oa (93 + k)) (q 7), wX0 dA ob c5] : List va_W).flatten) H := hP
  have hD : va_D A (([wH dA oa 1 (c - 1), wX0 dA (fun k => oa (2 + k)) (q 0), wX0 dA (fun k => oa (15 + k)) (q 1), wX0 dA (fun k => oa (28 + k)) (q 2), wX0 dA (fun k => oa (41 + k)) (q 3), wX0 dA (fun k => oa (54 + k)) (q 4), wX0 dA (fun k => oa (67 + k)) (q 5), wX0 dA (fun k => oa (80 + k)) (q 6), wX0 dA (fun k => oa (93 + k)) (q 7), wX0 dA ob c5] : List va_W).flatten) := hD
  exact W.vret hx hb hr (fun t ht hW => ⟨⟨(), rfl, trivial, by rw [ht, wX3, fl_snoc]; exact hP, by rw [wX3, fl_snoc]; exact hD⟩, hS.F ht⟩) hS.2.2 dX3_pop_46
set_option maxRecDepth 100000 in
set_option maxHeartbeats 4000000 in
theorem m_X3_pop_3 (l : Launch) (dC : Nat → ClassId) (dI : Nat → Nat → Nat) (dA gz : Nat → Nat) (oa ob : Nat → Nat) (sz : Nat) (c : Int32) (q : Nat → SX0) (b : SX0) (c5 : SX0) (h0 : ¬ c ≤ 0) (e5 : g_X0_copyFrom b (q 2) = some c5) : Met l yX3_pop ws_X3_pop ({ frames := 30, cells := 0, slots := 0, locals := 1200 } : Room) (va_Pc [.ref (oa 0), .ref (ob 0)] (pP (dC, dI) dA gz (wX3 dA oa (3, c, q) ++ wX0 dA ob b) sz)) (va_Qv (S := Unit) (fun _ => True) (fun _ t => pQ (dC, dI) (va_A (wX3 dA oa (3, c, q) ++ wX0 dA ob b) sz) (wX3 dA oa (2, c - 1, q) ++ wX0 dA ob c5) t) (va_A (wX3 dA oa (3, c, q) ++ wX0 dA ob b) sz)) 0 0 (va_A (wX3 dA oa (3, c, q) ++ wX0 dA ob b) sz) := by
  refine Met.ofW (cc := cX3_pop) (maxL := 2) (ret := none) (by decide) rfl ?_
  intro p e s m args below meth cd s₁ B hml hv
  obtain ⟨rfl, hsz, hP, hK, hD0, hN, hZ⟩ := hv
  have hx := B.exec
  have hb := B.bytes
  have hr := B.returns
  have hts := atoms_spec (ws := ws_X3_pop) B.pre
  have hown : s.vm.findClass RX3 = some m.cls := findClass_of_methodNamed B.named
  have hlocks := B.notSynchronized
  subst hsz
  have hD := hD0.self (sz := s.heap.size)
  generalize hAe : va_A (wX3 dA oa (3, c, q) ++ wX0 dA ob b) s.heap.size = A at hD hZ ⊢
  have hA : ∀ q : Nat, s.heap.size ≤ q → A q := fun q h => by rw [← hAe]; exact Or.inr h
  have hS : va_S A s.heap s.heap [] := va_S.rf
  have hl := lv_entry [.ref (oa 0), .ref (ob 0)] (n := 2) (Nat.le_of_ble_eq_true rfl)
  rw [lg_entry_eq]
  generalize (lg_sl [.ref (oa 0), .ref (ob 0)] ++ List.replicate (2 - (lg_sl [.ref (oa 0), .ref (ob 0)]).length) Slot.unset).toArray = ls at hl ⊢
  have hl : lv_has ls 2 [(0, .ref (oa 0)), (1, .ref (ob 0))] := hl
  have in_X3 : ∀ w ∈ wsX30, w ∈ ws_X3_pop := fun w h => bg _ (inB_X3 w h)
  have hP : va_P (dC, dI) vwCl ([wH dA oa 3 c, wX0 dA (fun k => oa (2 + k)) (q 0), wX0 dA (fun k => oa (15 + k)) (q 1), wX0 dA (fun k => oa (28 + k)) (q 2), wX0 dA (fun k => oa (41 + k)) (q 3), wX0 dA (fun k => oa (54 + k)) (q 4), wX0 dA (fun k => oa (67 + k)) (q 5), wX0 dA (fun k => oa (80 + k)) (q 6), wX0 dA (fun k => oa (93 + k)) (q 7), wX0 dA ob b] : List va_W).flatten s.heap := by have h := hP; rw [wX3, fl_snoc] at h; exact h
  have hD : va_D A ([wH dA oa 3 c, wX0 dA (fun k => oa (2 + k)) (q 0), wX0 dA (fun k => oa (15 + k)) (q 1), wX0 dA (fun k => oa (28 + k)) (q 2), wX0 dA (fun k => oa (41 + k)) (q 3), wX0 dA (fun k => oa (54 + k)) (q 4), wX0 dA (fun k => oa (67 + k)) (q 5), wX0 dA (fun k => oa (80 + k)) (q 6), wX0 dA (fun k => oa (93 + k)) (q 7), wX0 dA ob b] : List va_W).flatten := by have h := hD; rw [wX3, fl_snoc] at h; exact h
  refine lv_aload_n hx hb dX3_pop_0 rfl (lv_at hl 0 rfl) ?_
  refine va_get (D := (dC, dI)) (ci := 7) (v := .int c) (C := RX3) (T := TX3) (N := 3) hx hb hts in_X3 hown hK hP 0 rfl rfl 2 (by decide) (hts _ (bg _ wd_194)) (fun _ h9 => h9) rfl dX3_pop_1 ?_
  refine lv_if_le (tgt := 46) hx hb dX3_pop_4 (by decide) (fun q9 => absurd q9 h0) (fun q9 => ?_)
  refine lv_aload_n hx hb dX3_pop_7 rfl (lv_at hl 0 rfl) ?_
  refine lv_aload_n hx hb dX3_pop_8 rfl (lv_at hl 0 rfl) ?_
  refine va_get (D := (dC, dI)) (ci := 7) (v := .int 3) (C := RX3) (T := TX3) (N := 3) hx hb hts in_X3 hown hK hP 0 rfl rfl 1 (by decide) (hts _ (bg _ wd_193)) (fun _ h9 => h9) rfl dX3_pop_9 ?_
  refine lv_bipush (v := 8) hx hb dX3_pop_12 (by decide) ?_
  refine lv_iadd hx hb dX3_pop_14 ?_
  refine lv_iconst (v := 1) hx hb dX3_pop_15 (by decide) ?_
  refine lv_isub hx hb dX3_pop_16 ?_
  refine lv_bipush (v := 8) hx hb dX3_pop_17 (by decide) ?_
  refine lv_irem hx hb dX3_pop_19 (by decide) ?_
  refine W.eq (g2 := F0 m 20 ls [.int 2, .ref (oa 0)]) (congrArg (fun z => F0 m 20 ls [.int z, .ref (oa 0)]) (show (((3 + 8) - 1) - ((3 + 8) - 1) / 8 * 8 : Int32) = 2 by decide)) ?_
  refine va_put (D := (dC, dI)) (ci := 7) (v := .int 2) (ty := .int) (C := RX3) (T := TX3) (N := 3) hx hb hts in_X3 tyX3 tyX3_ok nmX3 hown hK hP hD hS 0 rfl rfl 1 (by decide) (hts _ (bg _ wd_193)) (fun _ h9 => h9) rfl (by decide +kernel) rfl rfl (Nat.le_of_ble_eq_true rfl) dX3_pop_20 (fun H locs hP hD hS => ?_)
  have hP : va_P (dC, dI) vwCl (([wH dA oa 2 c, wX0 dA (fun k => oa (2 + k)) (q 0), wX0 dA (fun k => oa (15 + k)) (q 1), wX0 dA (fun k => oa (28 + k)) (q 2), wX0 dA (fun k => oa (41 + k)) (q 3), wX0 dA (fun k => oa (54 + k)) (q 4), wX0 dA (fun k => oa (67 + k)) (q 5), wX0 dA (fun k => oa (80 + k)) (q 6), wX0 dA (fun k => oa (93 + k)) (q 7), wX0 dA ob b] : List va_W).flatten) H := hP
  have hD : va_D A (([wH dA oa 2 c, wX0 dA (fun k => oa (2 + k)) (q 0), wX0 dA (fun k => oa (15 + k)) (q 1), wX0 dA (fun k => oa (28 + k)) (q 2), wX0 dA (fun k => oa (41 + k)) (q 3), wX0 dA (fun k => oa (54 + k)) (q 4), wX0 dA (fun k => oa (67 + k)) (q 5), wX0 dA (fun k => oa (80 + k)) (q 6), wX0 dA (fun k => oa (93 + k)) (q 7), wX0 dA ob b] : List va_W).flatten) := hD
  refine lv_aload_n hx hb dX3_pop_23 rfl (lv_at hl 1 rfl) ?_
  refine lv_aload_n hx hb dX3_pop_24 rfl (lv_at hl 0 rfl) ?_
  refine va_get (D := (dC, dI)) (ci := 7) (v := .ref (oa 1)) (C := RX3) (T := TX3) (N := 3) hx hb hts in_X3 hown hK hP 0 rfl rfl 0 (by decide) (hts _ (bg _ wd_192)) (fun _ h9 => h9) rfl dX3_pop_25 ?_
  refine lv_aload_n hx hb dX3_pop_28 rfl (lv_at hl 0 rfl) ?_
  refine va_get (D := (dC, dI)) (ci := 7) (v := .int 2) (C := RX3) (T := TX3) (N := 3) hx hb hts in_X3 hown hK hP 0 rfl rfl 1 (by decide) (hts _ (bg _ wd_193)) (fun _ h9 => h9) rfl dX3_pop_29 ?_
  refine va_aldq hx hb hK hP 1 3 rfl rfl (show vp_in 2 8 from by unfold vp_in; decide) dX3_pop_32 ?_
  refine W.eq (g2 := F0 m 33 ls [.ref (oa 28), .ref (ob 0)]) rfl ?_
  refine jg2_v (va_runV (As := [.ref (oa 28)]) (rest := []) ⟨hx, hb, hml, hown, hts⟩ (mt_X0_copyFrom l dC dI dA gz ob (fun k => oa (28 + k)) H.size b (q 2) c5 e5) (cwV 1 hts (gi_v bg wd_481 wd_317 wd_318 wd_2 wd_319) rfl rfl rfl hd_X0_copyFrom ⟨Nat.le_of_ble_eq_true rfl, Nat.le_of_ble_eq_true rfl⟩) ⟨pP_blind, va_recv (ci := 4) (q0 := 0) hK (seg_P hP 9 rfl) rfl rfl, pP_pre2 hP hD hS hA hK hN hZ 9 3 rfl rfl (by decide)⟩ rfl rfl hl.1 rfl (lv_room (Nat.le_of_ble_eq_true rfl)) dX3_pop_33 ⟨Nat.le_of_ble_eq_true rfl, Nat.le_of_ble_eq_true rfl⟩) hP hD hS hA 9 3 rfl rfl (by decide) (aX0 _ _ _ _) (fun H locs hP hD hS => ?_)
  have hP : va_P (dC, dI) vwCl (([wH dA oa 2 c, wX0 dA (fun k => oa (2 + k)) (q 0), wX0 dA (fun k => oa (15 + k)) (q 1), wX0 dA (fun k => oa (28 + k)) (q 2), wX0 dA (fun k => oa (41 + k)) (q 3), wX0 dA (fun k => oa (54 + k)) (q 4), wX0 dA (fun k => oa (67 + k)) (q 5), wX0 dA (fun k => oa (80 + k)) (q 6), wX0 dA (fun k => oa (93 + k)) (q 7), wX0 dA ob c5] : List va_W).flatten) H := hP
  have hD : va_D A (([wH dA oa 2 c, wX0 dA (fun k => oa (2 + k)) (q 0), wX0 dA (fun k => oa (15 + k)) (q 1), wX0 dA (fun k => oa (28 + k)) (q 2), wX0 dA (fun k => oa (41 + k)) (q 3), wX0 dA (fun k => oa (54 + k)) (q 4), wX0 dA (fun k => oa (67 + k)) (q 5), wX0 dA (fun k => oa (80 + k)) (q 6), wX0 dA (fun k => oa (93 + k)) (q 7), wX0 dA ob c5] : List va_W).flatten) := hD
  refine lv_aload_n hx hb dX3_pop_36 rfl (lv_at hl 0 rfl) ?_
  refine lv_dup hx hb dX3_pop_37 rfl ?_
  refine va_get (D := (dC, dI)) (ci := 7) (v := .int c) (C := RX3) (T := TX3) (N := 3) hx hb hts in_X3 hown hK hP 0 rfl rfl 2 (by decide) (hts _ (bg _ wd_194)) (fun _ h9 => h9) rfl dX3_pop_38 ?_
  refine lv_iconst (v := 1) hx hb dX3_pop_41 (by decide) ?_
  refine lv_isub hx hb dX3_pop_42 ?_
  refine va_put (D := (dC, dI)) (ci := 7) (v := .int (c - 1)) (ty := .int) (C := RX3) (T := TX3) (N := 3) hx hb hts in_X3 tyX3 tyX3_ok nmX3 hown hK hP hD hS 0 rfl rfl 2 (by decide) (hts _ (bg _ wd_194)) (fun _ h9 => h9) rfl (by decide +kernel) rfl rfl (Nat.le_of_ble_eq_true rfl) dX3_pop_43 (fun H locs hP hD hS => ?_)
  have hP : va_P (dC, dI) vwCl (([wH dA oa 2 (c - 1), wX0 dA (fun k => oa (2 + k)) (q 0), wX0 dA (fun k => oa (15 + k)) (q 1), wX0 dA (fun k => oa (28 + k)) (q 2), wX0 dA (fun k => oa (41 + k)) (q 3), wX0 dA (fun k => oa (54 + k)) (q 4), wX0 dA (fun k => oa (67 + k)) (q 5), wX0 dA (fun k => oa (80 + k)) (q 6), wX0 dA (fun k => oa (93 + k)) (q 7), wX0 dA ob c5] : List va_W).flatten) H := hP
  have hD : va_D A (([wH dA oa 2 (c - 1), wX0 dA (fun k => oa (2 + k)) (q 0), wX0 dA (fun k => oa (15 + k)) (q 1), wX0 dA (fun k => oa (28 + k)) (q 2), wX0 dA (fun k => oa (41 + k)) (q 3), wX0 dA (fun k => oa (54 + k)) (q 4), wX0 dA (fun k => oa (67 + k)) (q 5), wX0 dA (fun k => oa (80 + k)) (q 6), wX0 dA (fun k => oa (93 + k)) (q 7), wX0 dA ob c5] : List va_W).flatten) := hD
  exact W.vret hx hb hr (fun t ht hW => ⟨⟨(), rfl, trivial, by rw [ht, wX3, fl_snoc]; exact hP, by rw [wX3, fl_snoc]; exact hD⟩, hS.F ht⟩) hS.2.2 dX3_pop_46
set_option maxRecDepth 100000 in
set_option maxHeartbeats 4000000 in
theorem m_X3_pop_4 (l : Launch) (dC : Nat → ClassId) (dI : Nat → Nat → Nat) (dA gz : Nat → Nat) (oa ob : Nat → Nat) (sz : Nat) (c : Int32) (q : Nat → SX0) (b : SX0) (c5 : SX0) (h0 : ¬ c ≤ 0) (e5 : g_X0_copyFrom b (q 3) = some c5) : Met l yX3_pop ws_X3_pop ({ frames := 30, cells := 0, slots := 0, locals := 1200 } : Room) (va_Pc [.ref (oa 0), .ref (ob 0)] (pP (dC, dI) dA gz (wX3 dA oa (4, c, q) ++ wX0 dA ob b) sz)) (va_Qv (S := Unit) (fun _ => True) (fun _ t => pQ (dC, dI) (va_A (wX3 dA oa (4, c, q) ++ wX0 dA ob b) sz) (wX3 dA oa (3, c - 1, q) ++ wX0 dA ob c5) t) (va_A (wX3 dA oa (4, c, q) ++ wX0 dA ob b) sz)) 0 0 (va_A (wX3 dA oa (4, c, q) ++ wX0 dA ob b) sz) := by
  refine Met.ofW (cc := cX3_pop) (maxL := 2) (ret := none) (by decide) rfl ?_
  intro p e s m args below meth cd s₁ B hml hv
  obtain ⟨rfl, hsz, hP, hK, hD0, hN, hZ⟩ := hv
  have hx := B.exec
  have hb := B.bytes
  have hr := B.returns
  have hts := atoms_spec (ws := ws_X3_pop) B.pre
  have hown : s.vm.findClass RX3 = some m.cls := findClass_of_methodNamed B.named
  have hlocks := B.notSynchronized
  subst hsz
  have hD := hD0.self (sz := s.heap.size)
  generalize hAe : va_A (wX3 dA oa (4, c, q) ++ wX0 dA ob b) s.heap.size = A at hD hZ ⊢
  have hA : ∀ q : Nat, s.heap.size ≤ q → A q := fun q h => by rw [← hAe]; exact Or.inr h
  have hS : va_S A s.heap s.heap [] := va_S.rf
  have hl := lv_entry [.ref (oa 0), .ref (ob 0)] (n := 2) (Nat.le_of_ble_eq_true rfl)
  rw [lg_entry_eq]
  generalize (lg_sl [.ref (oa 0), .ref (ob 0)] ++ List.replicate (2 - (lg_sl [.ref (oa 0), .ref (ob 0)]).length) Slot.unset).toArray = ls at hl ⊢
  have hl : lv_has ls 2 [(0, .ref (oa 0)), (1, .ref (ob 0))] := hl
  have in_X3 : ∀ w ∈ wsX30, w ∈ ws_X3_pop := fun w h => bg _ (inB_X3 w h)
  have hP : va_P (dC, dI) vwCl ([wH dA oa 4 c, wX0 dA (fun k => oa (2 + k)) (q 0), wX0 dA (fun k => oa (15 + k)) (q 1), wX0 dA (fun k => oa (28 + k)) (q 2), wX0 dA (fun k => oa (41 + k)) (q 3), wX0 dA (fun k => oa (54 + k)) (q 4), wX0 dA (fun k => oa (67 + k)) (q 5), wX0 dA (fun k => oa (80 + k)) (q 6), wX0 dA (fun k => oa (93 + k)) (q 7), wX0 dA ob b] : List va_W).flatten s.heap := by have h := hP; rw [wX3, fl_snoc] at h; exact h
  have hD : va_D A ([wH dA oa 4 c, wX0 dA (fun k => oa (2 + k)) (q 0), wX0 dA (fun k => oa (15 + k)) (q 1), wX0 dA (fun k => oa (28 + k)) (q 2), wX0 dA (fun k => oa (41 + k)) (q 3), wX0 dA (fun k => oa (54 + k)) (q 4), wX0 dA (fun k => oa (67 + k)) (q 5), wX0 dA (fun k => oa (80 + k)) (q 6), wX0 dA (fun k => oa (93 + k)) (q 7), wX0 dA ob b] : List va_W).flatten := by have h := hD; rw [wX3, fl_snoc] at h; exact h
  refine lv_aload_n hx hb dX3_pop_0 rfl (lv_at hl 0 rfl) ?_
  refine va_get (D := (dC, dI)) (ci := 7) (v := .int c) (C := RX3) (T := TX3) (N := 3) hx hb hts in_X3 hown hK hP 0 rfl rfl 2 (by decide) (hts _ (bg _ wd_194)) (fun _ h9 => h9) rfl dX3_pop_1 ?_
  refine lv_if_le (tgt := 46) hx hb dX3_pop_4 (by decide) (fun q9 => absurd q9 h0) (fun q9 => ?_)
  refine lv_aload_n hx hb dX3_pop_7 rfl (lv_at hl 0 rfl) ?_
  refine lv_aload_n hx hb dX3_pop_8 rfl (lv_at hl 0 rfl) ?_
  refine va_get (D := (dC, dI)) (ci := 7) (v := .int 4) (C := RX3) (T := TX3) (N := 3) hx hb hts in_X3 hown hK hP 0 rfl rfl 1 (by decide) (hts _ (bg _ wd_193)) (fun _ h9 => h9) rfl dX3_pop_9 ?_
  refine lv_bipush (v := 8) hx hb dX3_pop_12 (by decide) ?_
  refine lv_iadd hx hb dX3_pop_14 ?_
  refine lv_iconst (v := 1) hx hb dX3_pop_15 (by decide) ?_
  refine lv_isub hx hb dX3_pop_16 ?_
  refine lv_bipush (v := 8) hx hb dX3_pop_17 (by decide) ?_
  refine lv_irem hx hb dX3_pop_19 (by decide) ?_
  refine W.eq (g2 := F0 m 20 ls [.int 3, .ref (oa 0)]) (congrArg (fun z => F0 m 20 ls [.int z, .ref (oa 0)]) (show (((4 + 8) - 1) - ((4 + 8) - 1) / 8 * 8 : Int32) = 3 by decide)) ?_
  refine va_put (D := (dC, dI)) (ci := 7) (v := .int 3) (ty := .int) (C := RX3) (T := TX3) (N := 3) hx hb hts in_X3 tyX3 tyX3_ok nmX3 hown hK hP hD hS 0 rfl rfl 1 (by decide) (hts _ (bg _ wd_193)) (fun _ h9 => h9) rfl (by decide +kernel) rfl rfl (Nat.le_of_ble_eq_true rfl) dX3_pop_20 (fun H locs hP hD hS => ?_)
  have hP : va_P (dC, dI) vwCl (([wH dA oa 3 c, wX0 dA (fun k => oa (2 + k)) (q 0), wX0 dA (fun k => oa (15 + k)) (q 1), wX0 dA (fun k => oa (28 + k)) (q 2), wX0 dA (fun k => oa (41 + k)) (q 3), wX0 dA (fun k => oa (54 + k)) (q 4), wX0 dA (fun k => oa (67 + k)) (q 5), wX0 dA (fun k => oa (80 + k)) (q 6), wX0 dA (fun k => oa (93 + k)) (q 7), wX0 dA ob b] : List va_W).flatten) H := hP
  have hD : va_D A (([wH dA oa 3 c, wX0 dA (fun k => oa (2 + k)) (q 0), wX0 dA (fun k => oa (15 + k)) (q 1), wX0 dA (fun k => oa (28 + k)) (q 2), wX0 dA (fun k => oa (41 + k)) (q 3), wX0 dA (fun k => oa (54 + k)) (q 4), wX0 dA (fun k => oa (67 + k)) (q 5), wX0 dA (fun k => oa (80 + k)) (q 6), wX0 dA (fun k => oa (93 + k)) (q 7), wX0 dA ob b] : List va_W).flatten) := hD
  refine lv_aload_n hx hb dX3_pop_23 rfl (lv_at hl 1 rfl) ?_
  refine lv_aload_n hx hb dX3_pop_24 rfl (lv_at hl 0 rfl) ?_
  refine va_get (D := (dC, dI)) (ci := 7) (v := .ref (oa 1)) (C := RX3) (T := TX3) (N := 3) hx hb hts in_X3 hown hK hP 0 rfl rfl 0 (by decide) (hts _ (bg _ wd_192)) (fun _ h9 => h9) rfl dX3_pop_25 ?_
  refine lv_aload_n hx hb dX3_pop_28 rfl (lv_at hl 0 rfl) ?_
  refine va_get (D := (dC, dI)) (ci := 7) (v := .int 3) (C := RX3) (T := TX3) (N := 3) hx hb hts in_X3 hown hK hP 0 rfl rfl 1 (by decide) (hts _ (bg _ wd_193)) (fun _ h9 => h9) rfl dX3_pop_29 ?_
  refine va_aldq hx hb hK hP 1 3 rfl rfl (show vp_in 3 8 from by unfold vp_in; decide) dX3_pop_32 ?_
  refine W.eq (g2 := F0 m 33 ls [.ref (oa 41), .ref (ob 0)]) rfl ?_
  refine jg2_v (va_runV (As := [.ref (oa 41)]) (rest := []) ⟨hx, hb, hml, hown, hts⟩ (mt_X0_copyFrom l dC dI dA gz ob (fun k => oa (41 + k)) H.size b (q 3) c5 e5) (cwV 1 hts (gi_v bg wd_481 wd_317 wd_318 wd_2 wd_319) rfl rfl rfl hd_X0_copyFrom ⟨Nat.le_of_ble_eq_true rfl, Nat.le_of_ble_eq_true rfl⟩) ⟨pP_blind, va_recv (ci := 4) (q0 := 0) hK (seg_P hP 9 rfl) rfl rfl, pP_pre2 hP hD hS hA hK hN hZ 9 4 rfl rfl (by decide)⟩ rfl rfl hl.1 rfl (lv_room (Nat.le_of_ble_eq_true rfl)) dX3_pop_33 ⟨Nat.le_of_ble_eq_true rfl, Nat.le_of_ble_eq_true rfl⟩) hP hD hS hA 9 4 rfl rfl (by decide) (aX0 _ _ _ _) (fun H locs hP hD hS => ?_)
  have hP : va_P (dC, dI) vwCl (([wH dA oa 3 c, wX0 dA (fun k => oa (2 + k)) (q 0), wX0 dA (fun k => oa (15 + k)) (q 1), wX0 dA (fun k => oa (28 + k)) (q 2), wX0 dA (fun k => oa (41 + k)) (q 3), wX0 dA (fun k => oa (54 + k)) (q 4), wX0 dA (fun k => oa (67 + k)) (q 5), wX0 dA (fun k => oa (80 + k)) (q 6), wX0 dA (fun k => oa (93 + k)) (q 7), wX0 dA ob c5] : List va_W).flatten) H := hP
  have hD : va_D A (([wH dA oa 3 c, wX0 dA (fun k => oa (2 + k)) (q 0), wX0 dA (fun k => oa (15 + k)) (q 1), wX0 dA (fun k => oa (28 + k)) (q 2), wX0 dA (fun k => oa (41 + k)) (q 3), wX0 dA (fun k => oa (54 + k)) (q 4), wX0 dA (fun k => oa (67 + k)) (q 5), wX0 dA (fun k => oa (80 + k)) (q 6), wX0 dA (fun k => oa (93 + k)) (q 7), wX0 dA ob c5] : List va_W).flatten) := hD
  refine lv_aload_n hx hb dX3_pop_36 rfl (lv_at hl 0 rfl) ?_
  refine lv_dup hx hb dX3_pop_37 rfl ?_
  refine va_get (D := (dC, dI)) (ci := 7) (v := .int c) (C := RX3) (T := TX3) (N := 3) hx hb hts in_X3 hown hK hP 0 rfl rfl 2 (by decide) (hts _ (bg _ wd_194)) (fun _ h9 => h9) rfl dX3_pop_38 ?_
  refine lv_iconst (v := 1) hx hb dX3_pop_41 (by decide) ?_
  refine lv_isub hx hb dX3_pop_42 ?_
  refine va_put (D := (dC, dI)) (ci := 7) (v := .int (c - 1)) (ty := .int) (C := RX3) (T := TX3) (N := 3) hx hb hts in_X3 tyX3 tyX3_ok nmX3 hown hK hP hD hS 0 rfl rfl 2 (by decide) (hts _ (bg _ wd_194)) (fun _ h9 => h9) rfl (by decide +kernel) rfl rfl (Nat.le_of_ble_eq_true rfl) dX3_pop_43 (fun H locs hP hD hS => ?_)
  have hP : va_P (dC, dI) vwCl (([wH dA oa 3 (c - 1), wX0 dA (fun k => oa (2 + k)) (q 0), wX0 dA (fun k => oa (15 + k)) (q 1), wX0 dA (fun k => oa (28 + k)) (q 2), wX0 dA (fun k => oa (41 + k)) (q 3), wX0 dA (fun k => oa (54 + k)) (q 4), wX0 dA (fun k => oa (67 + k)) (q 5), wX0 dA (fun k => oa (80 + k)) (q 6), wX0 dA (fun k => oa (93 + k)) (q 7), wX0 dA ob c5] : List va_W).flatten) H := hP
  have hD : va_D A (([wH dA oa 3 (c - 1), wX0 dA (fun k => oa (2 + k)) (q 0), wX0 dA (fun k => oa (15 + k)) (q 1), wX0 dA (fun k => oa (28 + k)) (q 2), wX0 dA (fun k => oa (41 + k)) (q 3), wX0 dA (fun k => oa (54 + k)) (q 4), wX0 dA (fun k => oa (67 + k)) (q 5), wX0 dA (fun k => oa (80 + k)) (q 6), wX0 dA (fun k => oa (93 + k)) (q 7), wX0 dA ob c5] : List va_W).flatten) := hD
  exact W.vret hx hb hr (fun t ht hW => ⟨⟨(), rfl, trivial, by rw [ht, wX3, fl_snoc]; exact hP, by rw [wX3, fl_snoc]; exact hD⟩, hS.F ht⟩) hS.2.2 dX3_pop_46
set_option maxRecDepth 100000 in
set_option maxHeartbeats 4000000 in
theorem m_X3_pop_5 (l : Launch) (dC : Nat → ClassId) (dI : Nat → Nat → Nat) (dA gz : Nat → Nat) (oa ob : Nat → Nat) (sz : Nat) (c : Int32) (q : Nat → SX0) (b : SX0) (c5 : SX0) (h0 : ¬ c ≤ 0) (e5 : g_X0_copyFrom b (q 4) = some c5) : Met l yX3_pop ws_X3_pop ({ frames := 30, cells := 0, slots := 0, locals := 1200 } : Room) (va_Pc [.ref (oa 0), .ref (ob 0)] (pP (dC, dI) dA gz (wX3 dA oa (5, c, q) ++ wX0 dA ob b) sz)) (va_Qv (S := Unit) (fun _ => True) (fun _ t => pQ (dC, dI) (va_A (wX3 dA oa (5, c, q) ++ wX0 dA ob b) sz) (wX3 dA oa (4, c - 1, q) ++ wX0 dA ob c5) t) (va_A (wX3 dA oa (5, c, q) ++ wX0 dA ob b) sz)) 0 0 (va_A (wX3 dA oa (5, c, q) ++ wX0 dA ob b) sz) := by
  refine Met.ofW (cc := cX3_pop) (maxL := 2) (ret := none) (by decide) rfl ?_
  intro p e s m args below meth cd s₁ B hml hv
  obtain ⟨rfl, hsz, hP, hK, hD0, hN, hZ⟩ := hv
  have hx := B.exec
  have hb := B.bytes
  have hr := B.returns
  have hts := atoms_spec (ws := ws_X3_pop) B.pre
  have hown : s.vm.findClass RX3 = some m.cls := findClass_of_methodNamed B.named
  have hlocks := B.notSynchronized
  subst hsz
  have hD := hD0.self (sz := s.heap.size)
  generalize hAe : va_A (wX3 dA oa (5, c, q) ++ wX0 dA ob b) s.heap.size = A at hD hZ ⊢
  have hA : ∀ q : Nat, s.heap.size ≤ q → A q := fun q h => by rw [← hAe]; exact Or.inr h
  have hS : va_S A s.heap s.heap [] := va_S.rf
  have hl := lv_entry [.ref (oa 0), .ref (ob 0)] (n := 2) (Nat.le_of_ble_eq_true rfl)
  rw [lg_entry_eq]
  generalize (lg_sl [.ref (oa 0), .ref (ob 0)] ++ List.replicate (2 - (lg_sl [.ref (oa 0), .ref (ob 0)]).length) Slot.unset).toArray = ls at hl ⊢
  have hl : lv_has ls 2 [(0, .ref (oa 0)), (1, .ref (ob 0))] := hl
  have in_X3 : ∀ w ∈ wsX30, w ∈ ws_X3_pop := fun w h => bg _ (inB_X3 w h)
  have hP : va_P (dC, dI) vwCl ([wH dA oa 5 c, wX0 dA (fun k => oa (2 + k)) (q 0), wX0 dA (fun k => oa (15 + k)) (q 1), wX0 dA (fun k => oa (28 + k)) (q 2), wX0 dA (fun k => oa (41 + k)) (q 3), wX0 dA (fun k => oa (54 + k)) (q 4), wX0 dA (fun k => oa (67 + k)) (q 5), wX0 dA (fun k => oa (80 + k)) (q 6), wX0 dA (fun k => oa (93 + k)) (q 7), wX0 dA ob b] : List va_W).flatten s.heap := by have h := hP; rw [wX3, fl_snoc] at h; exact h
  have hD : va_D A ([wH dA oa 5 c, wX0 dA (fun k => oa (2 + k)) (q 0), wX0 dA (fun k => oa (15 + k)) (q 1), wX0 dA (fun k => oa (28 + k)) (q 2), wX0 dA (fun k => oa (41 + k)) (q 3), wX0 dA (fun k => oa (54 + k)) (q 4), wX0 dA (fun k => oa (67 + k)) (q 5), wX0 dA (fun k => oa (80 + k)) (q 6), wX0 dA (fun k => oa (93 + k)) (q 7), wX0 dA ob b] : List va_W).flatten := by have h := hD; rw [wX3, fl_snoc] at h; exact h
  refine lv_aload_n hx hb dX3_pop_0 rfl (lv_at hl 0 rfl) ?_
  refine va_get (D := (dC, dI)) (ci := 7) (v := .int c) (C := RX3) (T := TX3) (N := 3) hx hb hts in_X3 hown hK hP 0 rfl rfl 2 (by decide) (hts _ (bg _ wd_194)) (fun _ h9 => h9) rfl dX3_pop_1 ?_
  refine lv_if_le (tgt := 46) hx hb dX3_pop_4 (by decide) (fun q9 => absurd q9 h0) (fun q9 => ?_)
  refine lv_aload_n hx hb dX3_pop_7 rfl (lv_at hl 0 rfl) ?_
  refine lv_aload_n hx hb dX3_pop_8 rfl (lv_at hl 0 rfl) ?_
  refine va_get (D := (dC, dI)) (ci := 7) (v := .int 5) (C := RX3) (T := TX3) (N := 3) hx hb hts in_X3 hown hK hP 0 rfl rfl 1 (by decide) (hts _ (bg _ wd_193)) (fun _ h9 => h9) rfl dX3_pop_9 ?_
  refine lv_bipush (v := 8) hx hb dX3_pop_12 (by decide) ?_
  refine lv_iadd hx hb dX3_pop_14 ?_
  refine lv_iconst (v := 1) hx hb dX3_pop_15 (by decide) ?_
  refine lv_isub hx hb dX3_pop_16 ?_
  refine lv_bipush (v := 8) hx hb dX3_pop_17 (by decide) ?_
  refine lv_irem hx hb dX3_pop_19 (by decide) ?_
  refine W.eq (g2 := F0 m 20 ls [.int 4, .ref (oa 0)]) (congrArg (fun z => F0 m 20 ls [.int z, .ref (oa 0)]) (show (((5 + 8) - 1) - ((5 + 8) - 1) / 8 * 8 : Int32) = 4 by decide)) ?_
  refine va_put (D := (dC, dI)) (ci := 7) (v := .int 4) (ty := .int) (C := RX3) (T := TX3) (N := 3) hx hb hts in_X3 tyX3 tyX3_ok nmX3 hown hK hP hD hS 0 rfl rfl 1 (by decide) (hts _ (bg _ wd_193)) (fun _ h9 => h9) rfl (by decide +kernel) rfl rfl (Nat.le_of_ble_eq_true rfl) dX3_pop_20 (fun H locs hP hD hS => ?_)
  have hP : va_P (dC, dI) vwCl (([wH dA oa 4 c, wX0 dA (fun k => oa (2 + k)) (q 0), wX0 dA (fun k => oa (15 + k)) (q 1), wX0 dA (fun k => oa (28 + k)) (q 2), wX0 dA (fun k => oa (41 + k)) (q 3), wX0 dA (fun k => oa (54 + k)) (q 4), wX0 dA (fun k => oa (67 + k)) (q 5), wX0 dA (fun k => oa (80 + k)) (q 6), wX0 dA (fun k => oa (93 + k)) (q 7), wX0 dA ob b] : List va_W).flatten) H := hP
  have hD : va_D A (([wH dA oa 4 c, wX0 dA (fun k => oa (2 + k)) (q 0), wX0 dA (fun k => oa (15 + k)) (q 1), wX0 dA (fun k => oa (28 + k)) (q 2), wX0 dA (fun k => oa (41 + k)) (q 3), wX0 dA (fun k => oa (54 + k)) (q 4), wX0 dA (fun k => oa (67 + k)) (q 5), wX0 dA (fun k => oa (80 + k)) (q 6), wX0 dA (fun k => oa (93 + k)) (q 7), wX0 dA ob b] : List va_W).flatten) := hD
  refine lv_aload_n hx hb dX3_pop_23 rfl (lv_at hl 1 rfl) ?_
  refine lv_aload_n hx hb dX3_pop_24 rfl (lv_at hl 0 rfl) ?_
  refine va_get (D := (dC, dI)) (ci := 7) (v := .ref (oa 1)) (C := RX3) (T := TX3) (N := 3) hx hb hts in_X3 hown hK hP 0 rfl rfl 0 (by decide) (hts _ (bg _ wd_192)) (fun _ h9 => h9) rfl dX3_pop_25 ?_
  refine lv_aload_n hx hb dX3_pop_28 rfl (lv_at hl 0 rfl) ?_
  refine va_get (D := (dC, dI)) (ci := 7) (v := .int 4) (C := RX3) (T := TX3) (N := 3) hx hb hts in_X3 hown hK hP 0 rfl rfl 1 (by decide) (hts _ (bg _ wd_193)) (fun _ h9 => h9) rfl dX3_pop_29 ?_
  refine va_aldq hx hb hK hP 1 3 rfl rfl (show vp_in 4 8 from by unfold vp_in; decide) dX3_pop_32 ?_
  refine W.eq (g2 := F0 m 33 ls [.ref (oa 54), .ref (ob 0)]) rfl ?_
  refine jg2_v (va_runV (As := [.ref (oa 54)]) (rest := []) ⟨hx, hb, hml, hown, hts⟩ (mt_X0_copyFrom l dC dI dA gz ob (fun k => oa (54 + k)) H.size b (q 4) c5 e5) (cwV 1 hts (gi_v bg wd_481 wd_317 wd_318 wd_2 wd_319) rfl rfl rfl hd_X0_copyFrom ⟨Nat.le_of_ble_eq_true rfl, Nat.le_of_ble_eq_true rfl⟩) ⟨pP_blind, va_recv (ci := 4) (q0 := 0) hK (seg_P hP 9 rfl) rfl rfl, pP_pre2 hP hD hS hA hK hN hZ 9 5 rfl rfl (by decide)⟩ rfl rfl hl.1 rfl (lv_room (Nat.le_of_ble_eq_true rfl)) dX3_pop_33 ⟨Nat.le_of_ble_eq_true rfl, Nat.le_of_ble_eq_true rfl⟩) hP hD hS hA 9 5 rfl rfl (by decide) (aX0 _ _ _ _) (fun H locs hP hD hS => ?_)
  have hP : va_P (dC, dI) vwCl (([wH dA oa 4 c, wX0 dA (fun k => oa (2 + k)) (q 0), wX0 dA (fun k => oa (15 + k)) (q 1), wX0 dA (fun k => oa (28 + k)) (q 2), wX0 dA (fun k => oa (41 + k)) (q 3), wX0 dA (fun k => oa (54 + k)) (q 4), wX0 dA (fun k => oa (67 + k)) (q 5), wX0 dA (fun k => oa (80 + k)) (q 6), wX0 dA (fun k => oa (93 + k)) (q 7), wX0 dA ob c5] : List va_W).flatten) H := hP
  have hD : va_D A (([wH dA oa 4 c, wX0 dA (fun k => oa (2 + k)) (q 0), wX0 dA (fun k => oa (15 + k)) (q 1), wX0 dA (fun k => oa (28 + k)) (q 2), wX0 dA (fun k => oa (41 + k)) (q 3), wX0 dA (fun k => oa (54 + k)) (q 4), wX0 dA (fun k => oa (67 + k)) (q 5), wX0 dA (fun k => oa (80 + k)) (q 6), wX0 dA (fun k => oa (93 + k)) (q 7), wX0 dA ob c5] : List va_W).flatten) := hD
  refine lv_aload_n hx hb dX3_pop_36 rfl (lv_at hl 0 rfl) ?_
  refine lv_dup hx hb dX3_pop_37 rfl ?_
  refine va_get (D := (dC, dI)) (ci := 7) (v := .int c) (C := RX3) (T := TX3) (N := 3) hx hb hts in_X3 hown hK hP 0 rfl rfl 2 (by decide) (hts _ (bg _ wd_194)) (fun _ h9 => h9) rfl dX3_pop_38 ?_
  refine lv_iconst (v := 1) hx hb dX3_pop_41 (by decide) ?_
  refine lv_isub hx hb dX3_pop_42 ?_
  refine va_put (D := (dC, dI)) (ci := 7) (v := .int (c - 1)) (ty := .int) (C := RX3) (T := TX3) (N := 3) hx hb hts in_X3 tyX3 tyX3_ok nmX3 hown hK hP hD hS 0 rfl rfl 2 (by decide) (hts _ (bg _ wd_194)) (fun _ h9 => h9) rfl (by decide +kernel) rfl rfl (Nat.le_of_ble_eq_true rfl) dX3_pop_43 (fun H locs hP hD hS => ?_)
  have hP : va_P (dC, dI) vwCl (([wH dA oa 4 (c - 1), wX0 dA (fun k => oa (2 + k)) (q 0), wX0 dA (fun k => oa (15 + k)) (q 1), wX0 dA (fun k => oa (28 + k)) (q 2), wX0 dA (fun k => oa (41 + k)) (q 3), wX0 dA (fun k => oa (54 + k)) (q 4), wX0 dA (fun k => oa (67 + k)) (q 5), wX0 dA (fun k => oa (80 + k)) (q 6), wX0 dA (fun k => oa (93 + k)) (q 7), wX0 dA ob c5] : List va_W).flatten) H := hP
  have hD : va_D A (([wH dA oa 4 (c - 1), wX0 dA (fun k => oa (2 + k)) (q 0), wX0 dA (fun k => oa (15 + k)) (q 1), wX0 dA (fun k => oa (28 + k)) (q 2), wX0 dA (fun k => oa (41 + k)) (q 3), wX0 dA (fun k => oa (54 + k)) (q 4), wX0 dA (fun k => oa (67 + k)) (q 5), wX0 dA (fun k => oa (80 + k)) (q 6), wX0 dA (fun k => oa (93 + k)) (q 7), wX0 dA ob c5] : List va_W).flatten) := hD
  exact W.vret hx hb hr (fun t ht hW => ⟨⟨(), rfl, trivial, by rw [ht, wX3, fl_snoc]; exact hP, by rw [wX3, fl_snoc]; exact hD⟩, hS.F ht⟩) hS.2.2 dX3_pop_46
set_option maxRecDepth 100000 in
set_option maxHeartbeats 4000000 in
theorem m_X3_pop_6 (l : Launch) (dC : Nat → ClassId) (dI : Nat → Nat → Nat) (dA gz : Nat → Nat) (oa ob : Nat → Nat) (sz : Nat) (c : Int32) (q : Nat → SX0) (b : SX0) (c5 : SX0) (h0 : ¬ c ≤ 0) (e5 : g_X0_copyFrom b (q 5) = some c5) : Met l yX3_pop ws_X3_pop ({ frames := 30, cells := 0, slots := 0, locals := 1200 } : Room) (va_Pc [.ref (oa 0), .ref (ob 0)] (pP (dC, dI) dA gz (wX3 dA oa (6, c, q) ++ wX0 dA ob b) sz)) (va_Qv (S := Unit) (fun _ => True) (fun _ t => pQ (dC, dI) (va_A (wX3 dA oa (6, c, q) ++ wX0 dA ob b) sz) (wX3 dA oa (5, c - 1, q) ++ wX0 dA ob c5) t) (va_A (wX3 dA oa (6, c, q) ++ wX0 dA ob b) sz)) 0 0 (va_A (wX3 dA oa (6, c, q) ++ wX0 dA ob b) sz) := by
  refine Met.ofW (cc := cX3_pop) (maxL := 2) (ret := none) (by decide) rfl ?_
  intro p e s m args below meth cd s₁ B hml hv
  obtain ⟨rfl, hsz, hP, hK, hD0, hN, hZ⟩ := hv
  have hx := B.exec
  have hb := B.bytes
  have hr := B.returns
  have hts := atoms_spec (ws := ws_X3_pop) B.pre
  have hown : s.vm.findClass RX3 = some m.cls := findClass_of_methodNamed B.named
  have hlocks := B.notSynchronized
  subst hsz
  have hD := hD0.self (sz := s.heap.size)
  generalize hAe : va_A (wX3 dA oa (6, c, q) ++ wX0 dA ob b) s.heap.size = A at hD hZ ⊢
  have hA : ∀ q : Nat, s.heap.size ≤ q → A q := fun q h => by rw [← hAe]; exact Or.inr h
  have hS : va_S A s.heap s.heap [] := va_S.rf
  have hl := lv_entry [.ref (oa 0), .ref (ob 0)] (n := 2) (Nat.le_of_ble_eq_true rfl)
  rw [lg_entry_eq]
  generalize (lg_sl [.ref (oa 0), .ref (ob 0)] ++ List.replicate (2 - (lg_sl [.ref (oa 0), .ref (ob 0)]).length) Slot.unset).toArray = ls at hl ⊢
  have hl : lv_has ls 2 [(0, .ref (oa 0)), (1, .ref (ob 0))] := hl
  have in_X3 : ∀ w ∈ wsX30, w ∈ ws_X3_pop := fun w h => bg _ (inB_X3 w h)
  have hP : va_P (dC, dI) vwCl ([wH dA oa 6 c, wX0 dA (fun k => oa (2 + k)) (q 0), wX0 dA (fun k => oa (15 + k)) (q 1), wX0 dA (fun k => oa (28 + k)) (q 2), wX0 dA (fun k => oa (41 + k)) (q 3), wX0 dA (fun k => oa (54 + k)) (q 4), wX0 dA (fun k => oa (67 + k)) (q 5), wX0 dA (fun k => oa (80 + k)) (q 6), wX0 dA (fun k => oa (93 + k)) (q 7), wX0 dA ob b] : List va_W).flatten s.heap := by have h := hP; rw [wX3, fl_snoc] at h; exact h
  have hD : va_D A ([wH dA oa 6 c, wX0 dA (fun k => oa (2 + k)) (q 0), wX0 dA (fun k => oa (15 + k)) (q 1), wX0 dA (fun k => oa (28 + k)) (q 2), wX0 dA (fun k => oa (41 + k)) (q 3), wX0 dA (fun k => oa (54 + k)) (q 4), wX0 dA (fun k => oa (67 + k)) (q 5), wX0 dA (fun k => oa (80 + k)) (q 6), wX0 dA (fun k => oa (93 + k)) (q 7), wX0 dA ob b] : List va_W).flatten := by have h := hD; rw [wX3, fl_snoc] at h; exact h
  refine lv_aload_n hx hb dX3_pop_0 rfl (lv_at hl 0 rfl) ?_
  refine va_get (D := (dC, dI)) (ci := 7) (v := .int c) (C := RX3) (T := TX3) (N := 3) hx hb hts in_X3 hown hK hP 0 rfl rfl 2 (by decide) (hts _ (bg _ wd_194)) (fun _ h9 => h9) rfl dX3_pop_1 ?_
  refine lv_if_le (tgt := 46) hx hb dX3_pop_4 (by decide) (fun q9 => absurd q9 h0) (fun q9 => ?_)
  refine lv_aload_n hx hb dX3_pop_7 rfl (lv_at hl 0 rfl) ?_
  refine lv_aload_n hx hb dX3_pop_8 rfl (lv_at hl 0 rfl) ?_
  refine va_get (D := (dC, dI)) (ci := 7) (v := .int 6) (C := RX3) (T := TX3) (N := 3) hx hb hts in_X3 hown hK hP 0 rfl rfl 1 (by decide) (hts _ (bg _ wd_193)) (fun _ h9 => h9) rfl dX3_pop_9 ?_
  refine lv_bipush (v := 8) hx hb dX3_pop_12 (by decide) ?_
  refine lv_iadd hx hb dX3_pop_14 ?_
  refine lv_iconst (v := 1) hx hb dX3_pop_15 (by decide) ?_
  refine lv_isub hx hb dX3_pop_16 ?_
  refine lv_bipush (v := 8) hx hb dX3_pop_17 (by decide) ?_
  refine lv_irem hx hb dX3_pop_19 (by decide) ?_
  refine W.eq (g2 := F0 m 20 ls [.int 5, .ref (oa 0)]) (congrArg (fun z => F0 m 20 ls [.int z, .ref (oa 0)]) (show (((6 + 8) - 1) - ((6 + 8) - 1) / 8 * 8 : Int32) = 5 by decide)) ?_
  refine va_put (D := (dC, dI)) (ci := 7) (v := .int 5) (ty := .int) (C := RX3) (T := TX3) (N := 3) hx hb hts in_X3 tyX3 tyX3_ok nmX3 hown hK hP hD hS 0 rfl rfl 1 (by decide) (hts _ (bg _ wd_193)) (fun _ h9 => h9) rfl (by decide +kernel) rfl rfl (Nat.le_of_ble_eq_true rfl) dX3_pop_20 (fun H locs hP hD hS => ?_)
  have hP : va_P (dC, dI) vwCl (([wH dA oa 5 c, wX0 dA (fun k => oa (2 + k)) (q 0), wX0 dA (fun k => oa (15 + k)) (q 1), wX0 dA (fun k => oa (28 + k)) (q 2), wX0 dA (fun k => oa (41 + k)) (q 3), wX0 dA (fun k => oa (54 + k)) (q 4), wX0 dA (fun k => oa (67 + k)) (q 5), wX0 dA (fun k => oa (80 + k)) (q 6), wX0 dA (fun k => oa (93 + k)) (q 7), wX0 dA ob b] : List va_W).flatten) H := hP
  have hD : va_D A (([wH dA oa 5 c, wX0 dA (fun k => oa (2 + k)) (q 0), wX0 dA (fun k => oa (15 + k)) (q 1), wX0 dA (fun k => oa (28 + k)) (q 2), wX0 dA (fun k => oa (41 + k)) (q 3), wX0 dA (fun k => oa (54 + k)) (q 4), wX0 dA (fun k => oa (67 + k)) (q 5), wX0 dA (fun k => oa (80 + k)) (q 6), wX0 dA (fun k => oa (93 + k)) (q 7), wX0 dA ob b] : List va_W).flatten) := hD
  refine lv_aload_n hx hb dX3_pop_23 rfl (lv_at hl 1 rfl) ?_
  refine lv_aload_n hx hb dX3_pop_24 rfl (lv_at hl 0 rfl) ?_
  refine va_get (D := (dC, dI)) (ci := 7) (v := .ref (oa 1)) (C := RX3) (T := TX3) (N := 3) hx hb hts in_X3 hown hK hP 0 rfl rfl 0 (by decide) (hts _ (bg _ wd_192)) (fun _ h9 => h9) rfl dX3_pop_25 ?_
  refine lv_aload_n hx hb dX3_pop_28 rfl (lv_at hl 0 rfl) ?_
  refine va_get (D := (dC, dI)) (ci := 7) (v := .int 5) (C := RX3) (T := TX3) (N := 3) hx hb hts in_X3 hown hK hP 0 rfl rfl 1 (by decide) (hts _ (bg _ wd_193)) (fun _ h9 => h9) rfl dX3_pop_29 ?_
  refine va_aldq hx hb hK hP 1 3 rfl rfl (show vp_in 5 8 from by unfold vp_in; decide) dX3_pop_32 ?_
  refine W.eq (g2 := F0 m 33 ls [.ref (oa 67), .ref (ob 0)]) rfl ?_
  refine jg2_v (va_runV (As := [.ref (oa 67)]) (rest := []) ⟨hx, hb, hml, hown, hts⟩ (mt_X0_copyFrom l dC dI dA gz ob (fun k => oa (67 + k)) H.size b (q 5) c5 e5) (cwV 1 hts (gi_v bg wd_481 wd_317 wd_318 wd_2 wd_319) rfl rfl rfl hd_X0_copyFrom ⟨Nat.le_of_ble_eq_true rfl, Nat.le_of_ble_eq_true rfl⟩) ⟨pP_blind, va_recv (ci := 4) (q0 := 0) hK (seg_P hP 9 rfl) rfl rfl, pP_pre2 hP hD hS hA hK hN hZ 9 6 rfl rfl (by decide)⟩ rfl rfl hl.1 rfl (lv_room (Nat.le_of_ble_eq_true rfl)) dX3_pop_33 ⟨Nat.le_of_ble_eq_true rfl, Nat.le_of_ble_eq_true rfl⟩) hP hD hS hA 9 6 rfl rfl (by decide) (aX0 _ _ _ _) (fun H locs hP hD hS => ?_)
  have hP : va_P (dC, dI) vwCl (([wH dA oa 5 c, wX0 dA (fun k => oa (2 + k)) (q 0), wX0 dA (fun k => oa (15 + k)) (q 1), wX0 dA (fun k => oa (28 + k)) (q 2), wX0 dA (fun k => oa (41 + k)) (q 3), wX0 dA (fun k => oa (54 + k)) (q 4), wX0 dA (fun k => oa (67 + k)) (q 5), wX0 dA (fun k => oa (80 + k)) (q 6), wX0 dA (fun k => oa (93 + k)) (q 7), wX0 dA ob c5] : List va_W).flatten) H := hP
  have hD : va_D A (([wH dA oa 5 c, wX0 dA (fun k => oa (2 + k)) (q 0), wX0 dA (fun k => oa (15 + k)) (q 1), wX0 dA (fun k => oa (28 + k)) (q 2), wX0 dA (fun k => oa (41 + k)) (q 3), wX0 dA (fun k => oa (54 + k)) (q 4), wX0 dA (fun k => oa (67 + k)) (q 5), wX0 dA (fun k => oa (80 + k)) (q 6), wX0 dA (fun k => oa (93 + k)) (q 7), wX0 dA ob c5] : List va_W).flatten) := hD
  refine lv_aload_n hx hb dX3_pop_36 rfl (lv_at hl 0 rfl) ?_
  refine lv_dup hx hb dX3_pop_37 rfl ?_
  refine va_get (D := (dC, dI)) (ci := 7) (v := .int c) (C := RX3) (T := TX3) (N := 3) hx hb hts in_X3 hown hK hP 0 rfl rfl 2 (by decide) (hts _ (bg _ wd_194)) (fun _ h9 => h9) rfl dX3_pop_38 ?_
  refine lv_iconst (v := 1) hx hb dX3_pop_41 (by decide) ?_
  refine lv_isub hx hb dX3_pop_42 ?_
  refine va_put (D := (dC, dI)) (ci := 7) (v := .int (c - 1)) (ty := .int) (C := RX3) (T := TX3) (N := 3) hx hb hts in_X3 tyX3 tyX3_ok nmX3 hown hK hP hD hS 0 rfl rfl 2 (by decide) (hts _ (bg _ wd_194)) (fun _ h9 => h9) rfl (by decide +kernel) rfl rfl (Nat.le_of_ble_eq_true rfl) dX3_pop_43 (fun H locs hP hD hS => ?_)
  have hP : va_P (dC, dI) vwCl (([wH dA oa 5 (c - 1), wX0 dA (fun k => oa (2 + k)) (q 0), wX0 dA (fun k => oa (15 + k)) (q 1), wX0 dA (fun k => oa (28 + k)) (q 2), wX0 dA (fun k => oa (41 + k)) (q 3), wX0 dA (fun k => oa (54 + k)) (q 4), wX0 dA (fun k => oa (67 + k)) (q 5), wX0 dA (fun k => oa (80 + k)) (q 6), wX0 dA (fun k => oa (93 + k)) (q 7), wX0 dA ob c5] : List va_W).flatten) H := hP
  have hD : va_D A (([wH dA oa 5 (c - 1), wX0 dA (fun k => oa (2 + k)) (q 0), wX0 dA (fun k => oa (15 + k)) (q 1), wX0 dA (fun k => oa (28 + k)) (q 2), wX0 dA (fun k => oa (41 + k)) (q 3), wX0 dA (fun k => oa (54 + k)) (q 4), wX0 dA (fun k => oa (67 + k)) (q 5), wX0 dA (fun k => oa (80 + k)) (q 6), wX0 dA (fun k => oa (93 + k)) (q 7), wX0 dA ob c5] : List va_W).flatten) := hD
  exact W.vret hx hb hr (fun t ht hW => ⟨⟨(), rfl, trivial, by rw [ht, wX3, fl_snoc]; exact hP, by rw [wX3, fl_snoc]; exact hD⟩, hS.F ht⟩) hS.2.2 dX3_pop_46
set_option maxRecDepth 100000 in
set_option maxHeartbeats 4000000 in
theorem m_X3_pop_7 (l : Launch) (dC : Nat → ClassId) (dI : Nat → Nat → Nat) (dA gz : Nat → Nat) (oa ob : Nat → Nat) (sz : Nat) (c : Int32) (q : Nat → SX0) (b : SX0) (c5 : SX0) (h0 : ¬ c ≤ 0) (e5 : g_X0_copyFrom b (q 6) = some c5) : Met l yX3_pop ws_X3_pop ({ frames := 30, cells := 0, slots := 0, locals := 1200 } : Room) (va_Pc [.ref (oa 0), .ref (ob 0)] (pP (dC, dI) dA gz (wX3 dA oa (7, c, q) ++ wX0 dA ob b) sz)) (va_Qv (S := Unit) (fun _ => True) (fun _ t => pQ (dC, dI) (va_A (wX3 dA oa (7, c, q) ++ wX0 dA ob b) sz) (wX3 dA oa (6, c - 1, q) ++ wX0 dA ob c5) t) (va_A (wX3 dA oa (7, c, q) ++ wX0 dA ob b) sz)) 0 0 (va_A (wX3 dA oa (7, c, q) ++ wX0 dA ob b) sz) := by
  refine Met.ofW (cc := cX3_pop) (maxL := 2) (ret := none) (by decide) rfl ?_
  intro p e s m args below meth cd s₁ B hml hv
  obtain ⟨rfl, hsz, hP, hK, hD0, hN, hZ⟩ := hv
  have hx := B.exec
  have hb := B.bytes
  have hr := B.returns
  have hts := atoms_spec (ws := ws_X3_pop) B.pre
  have hown : s.vm.findClass RX3 = some m.cls := findClass_of_methodNamed B.named
  have hlocks := B.notSynchronized
  subst hsz
  have hD := hD0.self (sz := s.heap.size)
  generalize hAe : va_A (wX3 dA oa (7, c, q) ++ wX0 dA ob b) s.heap.size = A at hD hZ ⊢
  have hA : ∀ q : Nat, s.heap.size ≤ q → A q := fun q h => by rw [← hAe]; exact Or.inr h
  have hS : va_S A s.heap s.heap [] := va_S.rf
  have hl := lv_entry [.ref (oa 0), .ref (ob 0)] (n := 2) (Nat.le_of_ble_eq_true rfl)
  rw [lg_entry_eq]
  generalize (lg_sl [.ref (oa 0), .ref (ob 0)] ++ List.replicate (2 - (lg_sl [.ref (oa 0), .ref (ob 0)]).length) Slot.unset).toArray = ls at hl ⊢
  have hl : lv_has ls 2 [(0, .ref (oa 0)), (1, .ref (ob 0))] := hl
  have in_X3 : ∀ w ∈ wsX30, w ∈ ws_X3_pop := fun w h => bg _ (inB_X3 w h)
  have hP : va_P (dC, dI) vwCl ([wH dA oa 7 c, wX0 dA (fun k => oa (2 + k)) (q 0), wX0 dA (fun k => oa (15 + k)) (q 1), wX0 dA (fun k => oa (28 + k)) (q 2), wX0 dA (fun k => oa (41 + k)) (q 3), wX0 dA (fun k => oa (54 + k)) (q 4), wX0 dA (fun k => oa (67 + k)) (q 5), wX0 dA (fun k => oa (80 + k)) (q 6), wX0 dA (fun k => oa (93 + k)) (q 7), wX0 dA ob b] : List va_W).flatten s.heap := by have h := hP; rw [wX3, fl_snoc] at h; exact h
  have hD : va_D A ([wH dA oa 7 c, wX0 dA (fun k => oa (2 + k)) (q 0), wX0 dA (fun k => oa (15 + k)) (q 1), wX0 dA (fun k => oa (28 + k)) (q 2), wX0 dA (fun k => oa (41 + k)) (q 3), wX0 dA (fun k => oa (54 + k)) (q 4), wX0 dA (fun k => oa (67 + k)) (q 5), wX0 dA (fun k => oa (80 + k)) (q 6), wX0 dA (fun k => oa (93 + k)) (q 7), wX0 dA ob b] : List va_W).flatten := by have h := hD; rw [wX3, fl_snoc] at h; exact h
  refine lv_aload_n hx hb dX3_pop_0 rfl (lv_at hl 0 rfl) ?_
  refine va_get (D := (dC, dI)) (ci := 7) (v := .int c) (C := RX3) (T := TX3) (N := 3) hx hb hts in_X3 hown hK hP 0 rfl rfl 2 (by decide) (hts _ (bg _ wd_194)) (fun _ h9 => h9) rfl dX3_pop_1 ?_
  refine lv_if_le (tgt := 46) hx hb dX3_pop_4 (by decide) (fun q9 => absurd q9 h0) (fun q9 => ?_)
  refine lv_aload_n hx hb dX3_pop_7 rfl (lv_at hl 0 rfl) ?_
  refine lv_aload_n hx hb dX3_pop_8 rfl (lv_at hl 0 rfl) ?_
  refine va_get (D := (dC, dI)) (ci := 7) (v := .int 7) (C := RX3) (T := TX3) (N := 3) hx hb hts in_X3 hown hK hP 0 rfl rfl 1 (by decide) (hts _ (bg _ wd_193)) (fun _ h9 => h9) rfl dX3_pop_9 ?_
  refine lv_bipush (v := 8) hx hb dX3_pop_12 (by decide) ?_
  refine lv_iadd hx hb dX3_pop_14 ?_
  refine lv_iconst (v := 1) hx hb dX3_pop_15 (by decide) ?_
  refine lv_isub hx hb dX3_pop_16 ?_
  refine lv_bipush (v := 8) hx hb dX3_pop_17 (by decide) ?_
  refine lv_irem hx hb dX3_pop_19 (by decide) ?_
  refine W.eq (g2 := F0 m 20 ls [.int 6, .ref (oa 0)]) (congrArg (fun z => F0 m 20 ls [.int z, .ref (oa 0)]) (show (((7 + 8) - 1) - ((7 + 8) - 1) / 8 * 8 : Int32) = 6 by decide)) ?_
  refine va_put (D := (dC, dI)) (ci := 7) (v := .int 6) (ty := .int) (C := RX3) (T := TX3) (N := 3) hx hb hts in_X3 tyX3 tyX3_ok nmX3 hown hK hP hD hS 0 rfl rfl 1 (by decide) (hts _ (bg _ wd_193)) (fun _ h9 => h9) rfl (by decide +kernel) rfl rfl (Nat.le_of_ble_eq_true rfl) dX3_pop_20 (fun H locs hP hD hS => ?_)
  have hP : va_P (dC, dI) vwCl (([wH dA oa 6 c, wX0 dA (fun k => oa (2 + k)) (q 0), wX0 dA (fun k => oa (15 + k)) (q 1), wX0 dA (fun k => oa (28 + k)) (q 2), wX0 dA (fun k => oa (41 + k)) (q 3), wX0 dA (fun k => oa (54 + k)) (q 4), wX0 dA (fun k => oa (67 + k)) (q 5), wX0 dA (fun k => oa (80 + k)) (q 6), wX0 dA (fun k => oa (93 + k)) (q 7), wX0 dA ob b] : List va_W).flatten) H := hP
  have hD : va_D A (([wH dA oa 6 c, wX0 dA (fun k => oa (2 + k)) (q 0), wX0 dA (fun k => oa (15 + k)) (q 1), wX0 dA (fun k => oa (28 + k)) (q 2), wX0 dA (fun k => oa (41 + k)) (q 3), wX0 dA (fun k => oa (54 + k)) (q 4), wX0 dA (fun k => oa (67 + k)) (q 5), wX0 dA (fun k => oa (80 + k)) (q 6), wX0 dA (fun k => oa (93 + k)) (q 7), wX0 dA ob b] : List va_W).flatten) := hD
  refine lv_aload_n hx hb dX3_pop_23 rfl (lv_at hl 1 rfl) ?_
  refine lv_aload_n hx hb dX3_pop_24 rfl (lv_at hl 0 rfl) ?_
  refine va_get (D := (dC, dI)) (ci := 7) (v := .ref (oa 1)) (C := RX3) (T := TX3) (N := 3) hx hb hts in_X3 hown hK hP 0 rfl rfl 0 (by decide) (hts _ (bg _ wd_192)) (fun _ h9 => h9) rfl dX3_pop_25 ?_
  refine lv_aload_n hx hb dX3_pop_28 rfl (lv_at hl 0 rfl) ?_
  refine va_get (D := (dC, dI)) (ci := 7) (v := .int 6) (C := RX3) (T := TX3) (N := 3) hx hb hts in_X3 hown hK hP 0 rfl rfl 1 (by decide) (hts _ (bg _ wd_193)) (fun _ h9 => h9) rfl dX3_pop_29 ?_
  refine va_aldq hx hb hK hP 1 3 rfl rfl (show vp_in 6 8 from by unfold vp_in; decide) dX3_pop_32 ?_
  refine W.eq (g2 := F0 m 33 ls [.ref (oa 80), .ref (ob 0)]) rfl ?_
  refine jg2_v (va_runV (As := [.ref (oa 80)]) (rest := []) ⟨hx, hb, hml, hown, hts⟩ (mt_X0_copyFrom l dC dI dA gz ob (fun k => oa (80 + k)) H.size b (q 6) c5 e5) (cwV 1 hts (gi_v bg wd_481 wd_317 wd_318 wd_2 wd_319) rfl rfl rfl hd_X0_copyFrom ⟨Nat.le_of_ble_eq_true rfl, Nat.le_of_ble_eq_true rfl⟩) ⟨pP_blind, va_recv (ci := 4) (q0 := 0) hK (seg_P hP 9 rfl) rfl rfl, pP_pre2 hP hD hS hA hK hN hZ 9 7 rfl rfl (by decide)⟩ rfl rfl hl.1 rfl (lv_room (Nat.le_of_ble_eq_true rfl)) dX3_pop_33 ⟨Nat.le_of_ble_eq_true rfl, Nat.le_of_ble_eq_true rfl⟩) hP hD hS hA 9 7 rfl rfl (by decide) (aX0 _ _ _ _) (fun H locs hP hD hS => ?_)
  have hP : va_P (dC, dI) vwCl (([wH dA oa 6 c, wX0 dA (fun k => oa (2 + k)) (q 0), wX0 dA (fun k => oa (15 + k)) (q 1), wX0 dA (fun k => oa (28 + k)) (q 2), wX0 dA (fun k => oa (41 + k)) (q 3), wX0 dA (fun k => oa (54 + k)) (q 4), wX0 dA (fun k => oa (67 + k)) (q 5), wX0 dA (fun k => oa (80 + k)) (q 6), wX0 dA (fun k => oa (93 + k)) (q 7), wX0 dA ob c5] : List va_W).flatten) H := hP
  have hD : va_D A (([wH dA oa 6 c, wX0 dA (fun k => oa (2 + k)) (q 0), wX0 dA (fun k => oa (15 + k)) (q 1), wX0 dA (fun k => oa (28 + k)) (q 2), wX0 dA (fun k => oa (41 + k)) (q 3), wX0 dA (fun k => oa (54 + k)) (q 4), wX0 dA (fun k => oa (67 + k)) (q 5), wX0 dA (fun k => oa (80 + k)) (q 6), wX0 dA (fun k => oa (93 + k)) (q 7), wX0 dA ob c5] : List va_W).flatten) := hD
  refine lv_aload_n hx hb dX3_pop_36 rfl (lv_at hl 0 rfl) ?_
  refine lv_dup hx hb dX3_pop_37 rfl ?_
  refine va_get (D := (dC, dI)) (ci := 7) (v := .int c) (C := RX3) (T := TX3) (N := 3) hx hb hts in_X3 hown hK hP 0 rfl rfl 2 (by decide) (hts _ (bg _ wd_194)) (fun _ h9 => h9) rfl dX3_pop_38 ?_
  refine lv_iconst (v := 1) hx hb dX3_pop_41 (by decide) ?_
  refine lv_isub hx hb dX3_pop_42 ?_
  refine va_put (D := (dC, dI)) (ci := 7) (v := .int (c - 1)) (ty := .int) (C := RX3) (T := TX3) (N := 3) hx hb hts in_X3 tyX3 tyX3_ok nmX3 hown hK hP hD hS 0 rfl rfl 2 (by decide) (hts _ (bg _ wd_194)) (fun _ h9 => h9) rfl (by decide +kernel) rfl rfl (Nat.le_of_ble_eq_true rfl) dX3_pop_43 (fun H locs hP hD hS => ?_)
  have hP : va_P (dC, dI) vwCl (([wH dA oa 6 (c - 1), wX0 dA (fun k => oa (2 + k)) (q 0), wX0 dA (fun k => oa (15 + k)) (q 1), wX0 dA (fun k => oa (28 + k)) (q 2), wX0 dA (fun k => oa (41 + k)) (q 3), wX0 dA (fun k => oa (54 + k)) (q 4), wX0 dA (fun k => oa (67 + k)) (q 5), wX0 dA (fun k => oa (80 + k)) (q 6), wX0 dA (fun k => oa (93 + k)) (q 7), wX0 dA ob c5] : List va_W).flatten) H := hP
  have hD : va_D A (([wH dA oa 6 (c - 1), wX0 dA (fun k => oa (2 + k)) (q 0), wX0 dA (fun k => oa (15 + k)) (q 1), wX0 dA (fun k => oa (28 + k)) (q 2), wX0 dA (fun k => oa (41 + k)) (q 3), wX0 dA (fun k => oa (54 + k)) (q 4), wX0 dA (fun k => oa (67 + k)) (q 5), wX0 dA (fun k => oa (80 + k)) (q 6), wX0 dA (fun k => oa (93 + k)) (q 7), wX0 dA ob c5] : List va_W).flatten) := hD
  exact W.vret hx hb hr (fun t ht hW => ⟨⟨(), rfl, trivial, by rw [ht, wX3, fl_snoc]; exact hP, by rw [wX3, fl_snoc]; exact hD⟩, hS.F ht⟩) hS.2.2 dX3_pop_46
set_option maxRecDepth 100000 in
set_option maxHeartbeats 4000000 in
theorem m_X3_pop_n (l : Launch) (dC : Nat → ClassId) (dI : Nat → Nat → Nat) (dA gz : Nat → Nat) (oa ob : Nat → Nat) (sz : Nat) (n c : Int32) (q : Nat → SX0) (b : SX0) (h0 : c ≤ 0) : Met l yX3_pop ws_X3_pop ({ frames := 30, cells := 0, slots := 0, locals := 1200 } : Room) (va_Pc [.ref (oa 0), .ref (ob 0)] (pP (dC, dI) dA gz (wX3 dA oa (n, c, q) ++ wX0 dA ob b) sz)) (va_Qv (S := Unit) (fun _ => True) (fun _ t => pQ (dC, dI) (va_A (wX3 dA oa (n, c, q) ++ wX0 dA ob b) sz) (wX3 dA oa (n, c, q) ++ wX0 dA ob b) t) (va_A (wX3 dA oa (n, c, q) ++ wX0 dA ob b) sz)) 0 0 (va_A (wX3 dA oa (n, c, q) ++ wX0 dA ob b) sz) := by
  refine Met.ofW (cc := cX3_pop) (maxL := 2) (ret := none) (by decide) rfl ?_
  intro p e s m args below meth cd s₁ B hml hv
  obtain ⟨rfl, hsz, hP, hK, hD0, hN, hZ⟩ := hv
  have hx := B.exec
  have hb := B.bytes
  have hr := B.returns
  have hts := atoms_spec (ws := ws_X3_pop) B.pre
  have hown : s.vm.findClass RX3 = some m.cls := findClass_of_methodNamed B.named
  have hlocks := B.notSynchronized
  subst hsz
  have hD := hD0.self (sz := s.heap.size)
  generalize hAe : va_A (wX3 dA oa (n, c, q) ++ wX0 dA ob b) s.heap.size = A at hD hZ ⊢
  have hA : ∀ q : Nat, s.heap.size ≤ q → A q := fun q h => by rw [← hAe]; exact Or.inr h
  have hS : va_S A s.heap s.heap [] := va_S.rf
  have hl := lv_entry [.ref (oa 0), .ref (ob 0)] (n := 2) (Nat.le_of_ble_eq_true rfl)
  rw [lg_entry_eq]
  generalize (lg_sl [.ref (oa 0), .ref (ob 0)] ++ List.replicate (2 - (lg_sl [.ref (oa 0), .ref (ob 0)]).length) Slot.unset).toArray = ls at hl ⊢
  have hl : lv_has ls 2 [(0, .ref (oa 0)), (1, .ref (ob 0))] := hl
  have in_X3 : ∀ w ∈ wsX30, w ∈ ws_X3_pop := fun w h => bg _ (inB_X3 w h)
  have hP : va_P (dC, dI) vwCl ([wH dA oa n c, wX0 dA (fun k => oa (2 + k)) (q 0), wX0 dA (fun k => oa (15 + k)) (q 1), wX0 dA (fun k => oa (28 + k)) (q 2), wX0 dA (fun k => oa (41 + k)) (q 3), wX0 dA (fun k => oa (54 + k)) (q 4), wX0 dA (fun k => oa (67 + k)) (q 5), wX0 dA (fun k => oa (80 + k)) (q 6), wX0 dA (fun k => oa (93 + k)) (q 7), wX0 dA ob b] : List va_W).flatten s.heap := by have h := hP; rw [wX3, fl_snoc] at h; exact h
  have hD : va_D A ([wH dA oa n c, wX0 dA (fun k => oa (2 + k)) (q 0), wX0 dA (fun k => oa (15 + k)) (q 1), wX0 dA (fun k => oa (28 + k)) (q 2), wX0 dA (fun k => oa (41 + k)) (q 3), wX0 dA (fun k => oa (54 + k)) (q 4), wX0 dA (fun k => oa (67 + k)) (q 5), wX0 dA (fun k => oa (80 + k)) (q 6), wX0 dA (fun k => oa (93 + k)) (q 7), wX0 dA ob b] : List va_W).flatten := by have h := hD; rw [wX3, fl_snoc] at h; exact h
  refine lv_aload_n hx hb dX3_pop_0 rfl (lv_at hl 0 rfl) ?_
  refine va_get (D := (dC, dI)) (ci := 7) (v := .int c) (C := RX3) (T := TX3) (N := 3) hx hb hts in_X3 hown hK hP 0 rfl rfl 2 (by decide) (hts _ (bg _ wd_194)) (fun _ h9 => h9) rfl dX3_pop_1 ?_
  refine lv_if_le (tgt := 46) hx hb dX3_pop_4 (by decide) (fun q9 => ?_) (fun q9 => absurd h0 q9)
  exact W.vret hx hb hr (fun t ht hW => ⟨⟨(), rfl, trivial, by rw [ht, wX3, fl_snoc]; exact hP, by rw [wX3, fl_snoc]; exact hD⟩, hS.F ht⟩) hS.2.2 dX3_pop_46
set_option maxRecDepth 100000 in
set_option maxHeartbeats 4000000 in
theorem m_X3_forgetAll (l : Launch) (dC : Nat → ClassId) (dI : Nat → Nat → Nat) (dA gz : Nat → Nat) (oa : Nat → Nat) (sz : Nat) (n c : Int32) (q : Nat → SX0)  : Met l yX3_forgetAll ws_X3_forgetAll ({ frames := 30, cells := 0, slots := 0, locals := 1200 } : Room) (va_Pc [.ref (oa 0)] (pP (dC, dI) dA gz (wX3 dA oa (n, c, q)) sz)) (va_Qv (S := Unit) (fun _ => True) (fun _ t => pQ (dC, dI) (va_A (wX3 dA oa (n, c, q)) sz) (wX3 dA oa (n, 0, q)) t) (va_A (wX3 dA oa (n, c, q)) sz)) 0 0 (va_A (wX3 dA oa (n, c, q)) sz) := by
  refine Met.ofW (cc := cX3_forgetAll) (maxL := 1) (ret := none) (by decide) rfl ?_
  intro p e s m args below meth cd s₁ B hml hv
  obtain ⟨rfl, hsz, hP, hK, hD0, hN, hZ⟩ := hv
  have hx := B.exec
  have hb := B.bytes
  have hr := B.returns
  have hts := atoms_spec (ws := ws_X3_forgetAll) B.pre
  have hown : s.vm.findClass RX3 = some m.cls := findClass_of_methodNamed B.named
  have hlocks := B.notSynchronized
  subst hsz
  have hD := hD0.self (sz := s.heap.size)
  generalize hAe : va_A (wX3 dA oa (n, c, q)) s.heap.size = A at hD hZ ⊢
  have hA : ∀ q : Nat, s.heap.size ≤ q → A q := fun q h => by rw [← hAe]; exact Or.inr h
  have hS : va_S A s.heap s.heap [] := va_S.rf
  have hl := lv_entry [.ref (oa 0)] (n := 1) (Nat.le_of_ble_eq_true rfl)
  rw [lg_entry_eq]
  generalize (lg_sl [.ref (oa 0)] ++ List.replicate (1 - (lg_sl [.ref (oa 0)]).length) Slot.unset).toArray = ls at hl ⊢
  have hl : lv_has ls 1 [(0, .ref (oa 0))] := hl
  have in_X3 : ∀ w ∈ wsX30, w ∈ ws_X3_forgetAll := fun w h => bg _ (inB_X3 w h)
  have hP : va_P (dC, dI) vwCl ([wH dA oa n c, wX0 dA (fun k => oa (2 + k)) (q 0), wX0 dA (fun k => oa (15 + k)) (q 1), wX0 dA (fun k => oa (28 + k)) (q 2), wX0 dA (fun k => oa (41 + k)) (q 3), wX0 dA (fun k => oa (54 + k)) (q 4), wX0 dA (fun k => oa (67 + k)) (q 5), wX0 dA (fun k => oa (80 + k)) (q 6), wX0 dA (fun k => oa (93 + k)) (q 7)] : List va_W).flatten s.heap := hP
  have hD : va_D A ([wH dA oa n c, wX0 dA (fun k => oa (2 + k)) (q 0), wX0 dA (fun k => oa (15 + k)) (q 1), wX0 dA (fun k => oa (28 + k)) (q 2), wX0 dA (fun k => oa (41 + k)) (q 3), wX0 dA (fun k => oa (54 + k)) (q 4), wX0 dA (fun k => oa (67 + k)) (q 5), wX0 dA (fun k => oa (80 + k)) (q 6), wX0 dA (fun k => oa (93 + k)) (q 7)] : List va_W).flatten := hD
  refine lv_aload_n hx hb dX3_forgetAll_0 rfl (lv_at hl 0 rfl) ?_
  refine lv_iconst (v := 0) hx hb dX3_forgetAll_1 (by decide) ?_
  refine va_put (D := (dC, dI)) (ci := 7) (v := .int 0) (ty := .int) (C := RX3) (T := TX3) (N := 3) hx hb hts in_X3 tyX3 tyX3_ok nmX3 hown hK hP hD hS 0 rfl rfl 2 (by decide) (hts _ (bg _ wd_194)) (fun _ h9 => h9) rfl (by decide +kernel) rfl rfl (Nat.le_of_ble_eq_true rfl) dX3_forgetAll_2 (fun H locs hP hD hS => ?_)
  have hP : va_P (dC, dI) vwCl (([wH dA oa n 0, wX0 dA (fun k => oa (2 + k)) (q 0), wX0 dA (fun k => oa (15 + k)) (q 1), wX0 dA (fun k => oa (28 + k)) (q 2), wX0 dA (fun k => oa (41 + k)) (q 3), wX0 dA (fun k => oa (54 + k)) (q 4), wX0 dA (fun k => oa (67 + k)) (q 5), wX0 dA (fun k => oa (80 + k)) (q 6), wX0 dA (fun k => oa (93 + k)) (q 7)] : List va_W).flatten) H := hP
  have hD : va_D A (([wH dA oa n 0, wX0 dA (fun k => oa (2 + k)) (q 0), wX0 dA (fun k => oa (15 + k)) (q 1), wX0 dA (fun k => oa (28 + k)) (q 2), wX0 dA (fun k => oa (41 + k)) (q 3), wX0 dA (fun k => oa (54 + k)) (q 4), wX0 dA (fun k => oa (67 + k)) (q 5), wX0 dA (fun k => oa (80 + k)) (q 6), wX0 dA (fun k => oa (93 + k)) (q 7)] : List va_W).flatten) := hD
  exact W.vret hx hb hr (fun t ht hW => ⟨⟨(), rfl, trivial, by rw [ht]; exact hP, hD⟩, hS.F ht⟩) hS.2.2 dX3_forgetAll_5
theorem mt_X3_push (l : Launch) (dC : Nat → ClassId) (dI : Nat → Nat → Nat) (dA gz : Nat → Nat) (oa ob : Nat → Nat) (sz : Nat) (s : SX3) (b : SX0) (uu : SX3) (hf : g_X3_push s b = some uu) : Met l yX3_push ws_X3_push ({ frames := 30, cells := 0, slots := 0, locals := 1200 } : Room) (va_Pc [.ref (oa 0), .ref (ob 0)] (pP (dC, dI) dA gz (wX3 dA oa s ++ wX0 dA ob b) sz)) (va_Qv (S := Unit) (fun _ => True) (fun _ t => pQ (dC, dI) (va_A (wX3 dA oa s ++ wX0 dA ob b) sz) (wX3 dA oa uu ++ wX0 dA ob b) t) (va_A (wX3 dA oa s ++ wX0 dA ob b) sz)) 0 0 (va_A (wX3 dA oa s ++ wX0 dA ob b) sz) := by
  obtain ⟨n, c, q⟩ := s
  rw [g_X3_push] at hf
  obtain ⟨h1, hf⟩ := gd hf
  obtain ⟨c5, e5, hf⟩ := bd hf
  have e9 := sm hf
  subst e9
  obtain ⟨j, hj, hn⟩ := vp_in_of (n := 8) h1 (by decide)
  have hn : n = nI j := hn
  subst hn
  rcases (show j = 0 ∨ j = 1 ∨ j = 2 ∨ j = 3 ∨ j = 4 ∨ j = 5 ∨ j = 6 ∨ j = 7 by omega) with rfl | rfl | rfl | rfl | rfl | rfl | rfl | rfl
  · exact m_X3_push_0 l dC dI dA gz oa ob sz c q b c5 e5
  · exact m_X3_push_1 l dC dI dA gz oa ob sz c q b c5 e5
  · exact m_X3_push_2 l dC dI dA gz oa ob sz c q b c5 e5
  · exact m_X3_push_3 l dC dI dA gz oa ob sz c q b c5 e5
  · exact m_X3_push_4 l dC dI dA gz oa ob sz c q b c5 e5
  · exact m_X3_push_5 l dC dI dA gz oa ob sz c q b c5 e5
  · exact m_X3_push_6 l dC dI dA gz oa ob sz c q b c5 e5
  · exact m_X3_push_7 l dC dI dA gz oa ob sz c q b c5 e5
theorem mt_X3_pop (l : Launch) (dC : Nat → ClassId) (dI : Nat → Nat → Nat) (dA gz : Nat → Nat) (oa ob : Nat → Nat) (sz : Nat) (s : SX3) (b : SX0) (uu : SX3) (vv : SX0) (hf : g_X3_pop s b = some (uu, vv)) : Met l yX3_pop ws_X3_pop ({ frames := 30, cells := 0, slots := 0, locals := 1200 } : Room) (va_Pc [.ref (oa 0), .ref (ob 0)] (pP (dC, dI) dA gz (wX3 dA oa s ++ wX0 dA ob b) sz)) (va_Qv (S := Unit) (fun _ => True) (fun _ t => pQ (dC, dI) (va_A (wX3 dA oa s ++ wX0 dA ob b) sz) (wX3 dA oa uu ++ wX0 dA ob vv) t) (va_A (wX3 dA oa s ++ wX0 dA ob b) sz)) 0 0 (va_A (wX3 dA oa s ++ wX0 dA ob b) sz) := by
  obtain ⟨n, c, q⟩ := s
  rw [g_X3_pop] at hf
  by_cases h0 : c ≤ 0
  · have hf := it h0 hf
    obtain ⟨e8, e9⟩ := Prod.mk.inj (sm hf)
    subst e8
    subst e9
    exact m_X3_pop_n l dC dI dA gz oa ob sz n c q b h0
  have hf := ie h0 hf
  obtain ⟨h1, hf⟩ := gd hf
  obtain ⟨c5, e5, hf⟩ := bd hf
  obtain ⟨e8, e9⟩ := Prod.mk.inj (sm hf)
  subst e8
  subst e9
  obtain ⟨j, hj, hn⟩ := vp_in_of (n := 8) h1 (by decide)
  have hn : n = nI j := hn
  subst hn
  rcases (show j = 0 ∨ j = 1 ∨ j = 2 ∨ j = 3 ∨ j = 4 ∨ j = 5 ∨ j = 6 ∨ j = 7 by omega) with rfl | rfl | rfl | rfl | rfl | rfl | rfl | rfl
  · rw [show hq (nI 0) = 7 by decide] at e5 ⊢; exact m_X3_pop_0 l dC dI dA gz oa ob sz c q b c5 h0 e5
  · rw [show hq (nI 1) = 0 by decide] at e5 ⊢; exact m_X3_pop_1 l dC dI dA gz oa ob sz c q b c5 h0 e5
  · rw [show hq (nI 2) = 1 by decide] at e5 ⊢; exact m_X3_pop_2 l dC dI dA gz oa ob sz c q b c5 h0 e5
  · rw [show hq (nI 3) = 2 by decide] at e5 ⊢; exact m_X3_pop_3 l dC dI dA gz oa ob sz c q b c5 h0 e5
  · rw [show hq (nI 4) = 3 by decide] at e5 ⊢; exact m_X3_pop_4 l dC dI dA gz oa ob sz c q b c5 h0 e5
  · rw [show hq (nI 5) = 4 by decide] at e5 ⊢; exact m_X3_pop_5 l dC dI dA gz oa ob sz c q b c5 h0 e5
  · rw [show hq (nI 6) = 5 by decide] at e5 ⊢; exact m_X3_pop_6 l dC dI dA gz oa ob sz c q b c5 h0 e5
  · rw [show hq (nI 7) = 6 by decide] at e5 ⊢; exact m_X3_pop_7 l dC dI dA gz oa ob sz c q b c5 h0 e5
theorem mt_X3_forgetAll (l : Launch) (dC : Nat → ClassId) (dI : Nat → Nat → Nat) (dA gz : Nat → Nat) (oa : Nat → Nat) (sz : Nat) (s : SX3) (uu : SX3) (hf : g_X3_forgetAll s = some uu) : Met l yX3_forgetAll ws_X3_forgetAll ({ frames := 30, cells := 0, slots := 0, locals := 1200 } : Room) (va_Pc [.ref (oa 0)] (pP (dC, dI) dA gz (wX3 dA oa s) sz)) (va_Qv (S := Unit) (fun _ => True) (fun _ t => pQ (dC, dI) (va_A (wX3 dA oa s) sz) (wX3 dA oa uu) t) (va_A (wX3 dA oa s) sz)) 0 0 (va_A (wX3 dA oa s) sz) := by
  obtain ⟨n, c, q⟩ := s
  have e9 := sm hf
  subst e9
  exact m_X3_forgetAll l dC dI dA gz oa sz n c q
